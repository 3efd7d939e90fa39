/** The sentences under TIME AND PACING that name a boundary case, in the order of the document. */
final class TimeEdgeTest {
    private static final Check CHECK = new Check("TimeEdgeTest");

    public static void main(String[] args) {
        lastCall();
        firstTick();
        days();
        longestDay();
        shortestDay();
        atFirst();
        effectiveBids();
        plans();
        moreOrLess();
        notBelowTen();
        notAboveHundred();
        onlyEvenAndStrict();
        eachOfEight();
        controlledByThePlanBefore();
        newDay();
        CHECK.end();
    }

    private static void lastCall() {
        CHECK.quote("An object is used for at most 512 calls after it has been made;");
        AdMarketplace x = new AdMarketplace();
        for (int i = 0; i < 511; i++) {
            x.tick();
        }
        CHECK.due("call number 512", 1, x.pass(1));
        AdMarketplace y = new AdMarketplace();
        for (int i = 0; i < 255; i++) {
            y.convert(0, 5);
            y.undo();
        }
        CHECK.due("call number 511", 0, y.conversions());
        CHECK.due("call number 512", -1, y.convert(0, 5));
    }

    private static void firstTick() {
        CHECK.quote("Time is counted in ticks; the present tick is 0 at first.");
        AdMarketplace x = new AdMarketplace();
        CHECK.due("a new object", 0, x.tick());
        x.pass(3);
        Check.load(x, "day 5;");
        CHECK.due("a new text", 0, x.tick());
    }

    /** Spends 6 in the present tick: as long as the day lasts, that is spent. */
    private static AdMarketplace spender(int ticks) {
        AdMarketplace x = Check.open("day " + ticks + ";tag t 6;campaign a 6 9999 9 1 any;");
        x.request(0, 0, 1);
        return x;
    }

    private static void days() {
        CHECK.quote("Day number d consists of the ticks from d * TICKS on.");
        AdMarketplace x = spender(3);
        for (int day = 0; day < 4; day++) {
            CHECK.due("the first tick of day " + day, 9999 / 3, x.plan(0));
            x.pass(1);
            x.pass(1);
            CHECK.due("the last tick of day " + day, 3 * day + 2, x.tick());
            CHECK.due("the last tick of day " + day + ": plan", 9999, x.plan(0));
            CHECK.due("the last tick of day " + day + ": spent", 6, x.spent(0));
            x.pass(1);
            CHECK.due("the first tick of day " + (day + 1) + ": spent", 0, x.spent(0));
            x.request(0, 0, 1);
        }
        AdMarketplace y = spender(7);
        y.pass(200);
        CHECK.due("tick 200 is the fifth of day 28", 9999 * 5 / 7, y.plan(0));
        y.pass(2);
        CHECK.due("tick 202 is the last of day 28", 9999, y.plan(0));
        y.pass(1);
        CHECK.due("tick 203 is the first of day 29", 9999 / 7, y.plan(0));
        y.undo();
        CHECK.due("undone: the last of day 28 again", 9999, y.plan(0));
        y.undo();
        y.undo();
        CHECK.due("undone: the first of day 0 again", 9999 / 7, y.plan(0));
        CHECK.due("undone: spent", 6, y.spent(0));
        y.pass(6);
        CHECK.due("the last tick of day 0", 6, y.spent(0));
        y.pass(1);
        CHECK.due("the first tick of day 1", 0, y.spent(0));
    }

    private static void longestDay() {
        AdMarketplace x = spender(999);
        for (int i = 0; i < 4; i++) {
            x.pass(200);
        }
        x.pass(198);
        CHECK.due("tick 998", 998, x.tick());
        CHECK.due("tick 998: spent", 6, x.spent(0));
        CHECK.due("tick 998: plan", 9999, x.plan(0));
        x.pass(1);
        CHECK.due("tick 999: spent", 0, x.spent(0));
        CHECK.due("tick 999: plan", 10, x.plan(0));
        for (int i = 0; i < 45; i++) {
            x.pass(200);
        }
        CHECK.due("tick 9999 is the tenth of day 10", 9999 * 10 / 999, x.plan(0));
    }

    private static void shortestDay() {
        AdMarketplace x = spender(1);
        CHECK.due("every tick is a day: spent", 6, x.spent(0));
        x.pass(1);
        CHECK.due("the next day: spent", 0, x.spent(0));
        CHECK.due("the next day: plan", 9999, x.plan(0));
        AdMarketplace y = spender(2);
        y.pass(1);
        CHECK.due("a day of two ticks: spent", 6, y.spent(0));
        y.pass(1);
        CHECK.due("a day of two ticks is over", 0, y.spent(0));
    }

    private static void atFirst() {
        CHECK.quote("Each campaign has an amount that it has spent on the present day (0 at first) and a multiplier (100 at first).");
        AdMarketplace x = Check.open("day 99;tag t 6;campaign a 6 99 9 1 any;campaign b 6 99 9 1 any;pace a even;pace b strict;");
        for (int c = 0; c < 2; c++) {
            CHECK.due("spent by " + c, 0, x.spent(c));
            CHECK.due("multiplier of " + c, 100, x.multiplier(c));
        }
        x.request(0, 0, 1);
        x.pass(1);
        CHECK.due("spent, before a text is loaded", 6, x.spent(0));
        CHECK.due("multiplier, before a text is loaded", 90, x.multiplier(0));
        Check.load(x, "campaign c 1 1 1 1 any;");
        CHECK.due("spent, of another text", 0, x.spent(0));
        CHECK.due("multiplier, of another text", 100, x.multiplier(0));
    }

    /** An even campaign with this multiplier, which has spent 1 of 99 in a day of 999 ticks. */
    private static AdMarketplace paced(int multiplier) {
        AdMarketplace x = Check.open("day 999;tag t 1;campaign a 1 99 9 1 any;pace a even;");
        x.request(0, 0, 1);
        // The plan is 0 for ten ticks and the campaign has spent 1.
        if (multiplier < 100) {
            x.pass((100 - multiplier + 9) / 10);
        }
        if (multiplier % 10 != 0) {
            x.setBudget(0, 9999);
            x.pass(1);
            x.setBudget(0, 99);
        }
        CHECK.due("the multiplier of a campaign to be tested", multiplier, x.multiplier(0));
        return x;
    }

    private static void effectiveBid(AdMarketplace x, int bid, int due) {
        x.setBid(0, bid);
        CHECK.due("the effective bid for " + bid + " at " + x.multiplier(0), due, x.effectiveBid(0));
    }

    private static void effectiveBids() {
        CHECK.quote("Its effective bid is its bid * multiplier / 100, rounded up.");
        int[][] due = {
            {100, 1, 1}, {100, 999, 999}, {90, 1, 1}, {90, 10, 9}, {90, 11, 10}, {90, 999, 900}, {95, 20, 19}, {95, 21, 20},
            {95, 19, 19}, {95, 999, 950}, {50, 1, 1}, {50, 2, 1}, {50, 3, 2}, {50, 999, 500}, {10, 1, 1}, {10, 9, 1},
            {10, 10, 1}, {10, 11, 2}, {10, 990, 99}, {10, 991, 100}, {10, 999, 100}, {15, 6, 1}, {15, 7, 2}, {15, 20, 3},
        };
        for (int[] line : due) {
            effectiveBid(paced(line[0]), line[1], line[2]);
        }
    }

    private static void plan(int ticks, int budget, int passed, int due) {
        AdMarketplace x = Check.open("day " + ticks + ";campaign a 1 " + budget + " 1 1 any;");
        for (int left = passed; left > 0; left -= 200) {
            x.pass(Math.min(left, 200));
        }
        CHECK.due("the plan of " + budget + " in a day of " + ticks + " at tick " + passed, due, x.plan(0));
    }

    private static void plans() {
        CHECK.quote("Its plan is its budget * (1 + the number of ticks of the present day that have passed) / TICKS, rounded down.");
        int[][] due = {
            {999, 1, 0, 0}, {999, 1, 997, 0}, {999, 1, 998, 1}, {999, 1, 999, 0}, {999, 9999, 0, 10}, {999, 9999, 998, 9999},
            {999, 998, 0, 0}, {999, 999, 0, 1}, {999, 1000, 0, 1}, {1, 1, 0, 1}, {1, 9999, 0, 9999}, {1, 9999, 5, 9999},
            {2, 1, 0, 0}, {2, 1, 1, 1}, {2, 1, 2, 0}, {3, 2, 0, 0}, {3, 2, 1, 1}, {3, 2, 2, 2}, {100, 9999, 99, 9999},
        };
        for (int[] line : due) {
            plan(line[0], line[1], line[2], line[3]);
        }
    }

    /** At tick 1 of 10 the multiplier is 90 and 12 is spent; the budget decides what the plan is then. */
    private static int multiplierFor(int budget, String mode) {
        AdMarketplace x = Check.open("day 10;tag t 12;campaign a 12 100 9 9 any;");
        x.request(0, 0, 1);
        x.setMode(0, mode.equals("strict") ? 2 : 1);
        x.pass(1);
        CHECK.due("12 is more than 10", 90, x.multiplier(0));
        x.setBudget(0, budget);
        x.pass(1);
        return x.multiplier(0);
    }

    private static void moreOrLess() {
        CHECK.quote("When a tick passes, each campaign whose mode is even or strict is controlled: if it has spent more than its plan, its multiplier decreases by 10,");
        for (String mode : new String[] {"even", "strict"}) {
            CHECK.due("the plan is 11: more is spent", 80, multiplierFor(59, mode));
            CHECK.due("the plan is 12: as much is spent", 90, multiplierFor(60, mode));
            CHECK.due("the plan is 12.8, rounded down: as much is spent", 90, multiplierFor(64, mode));
            CHECK.due("the plan is 13: less is spent", 95, multiplierFor(65, mode));
        }
    }

    private static void notBelowTen() {
        CHECK.quote("its multiplier decreases by 10, but not below 10;");
        AdMarketplace x = paced(20);
        x.pass(1);
        CHECK.due("from 20", 10, x.multiplier(0));
        x.setBudget(0, 1);
        x.pass(1);
        CHECK.due("from 10", 10, x.multiplier(0));
        x.pass(200);
        CHECK.due("from 10, for long", 10, x.multiplier(0));
        AdMarketplace y = paced(15);
        y.setBudget(0, 1);
        y.pass(1);
        CHECK.due("from 15", 10, y.multiplier(0));
        AdMarketplace z = paced(25);
        z.setBudget(0, 1);
        z.pass(1);
        CHECK.due("from 25", 15, z.multiplier(0));
    }

    private static void notAboveHundred() {
        CHECK.quote("if it has spent less, its multiplier increases by 5, but not above 100.");
        AdMarketplace x = paced(90);
        x.setBudget(0, 9999);
        x.pass(1);
        CHECK.due("from 90", 95, x.multiplier(0));
        x.pass(1);
        CHECK.due("from 95", 100, x.multiplier(0));
        x.pass(1);
        CHECK.due("from 100", 100, x.multiplier(0));
        x.pass(200);
        CHECK.due("from 100, for long", 100, x.multiplier(0));
        AdMarketplace y = paced(10);
        y.setBudget(0, 9999);
        y.pass(17);
        CHECK.due("from 10, seventeen times", 95, y.multiplier(0));
        y.pass(2);
        CHECK.due("from 10, nineteen times", 100, y.multiplier(0));
    }

    private static void onlyEvenAndStrict() {
        CHECK.quote("each campaign whose mode is even or strict is controlled:");
        AdMarketplace x = Check.open("day 999;slots 100 100 100;tag t 5;campaign a 5 99 9 9 any;campaign b 5 99 9 9 any;"
            + "campaign c 5 99 9 9 any;pace b even;");
        x.request(0, 0, 3);
        x.setMode(2, 2);
        x.pause(1);
        x.pass(1);
        CHECK.due("fast", 100, x.multiplier(0));
        CHECK.due("even, though paused", 90, x.multiplier(1));
        CHECK.due("strict", 90, x.multiplier(2));
        x.setMode(1, 0);
        CHECK.due("from even to fast", 100, x.multiplier(1));
        x.pass(5);
        CHECK.due("fast from then on", 100, x.multiplier(1));
        CHECK.due("strict still", 40, x.multiplier(2));
    }

    private static void eachOfEight() {
        StringBuilder text = new StringBuilder("day 999;slots 100 100 100 100;tag t 5;");
        for (int i = 0; i < 8; i++) {
            text.append("campaign ").append((char) ('a' + i)).append(" 5 99 9 9 any;pace ").append((char) ('a' + i)).append(" even;");
        }
        AdMarketplace x = Check.open(text.toString());
        for (int c = 7; c >= 4; c--) {
            x.pause(c);
        }
        x.request(0, 0, 4);
        x.pass(1);
        for (int c = 0; c < 8; c++) {
            CHECK.due("campaign " + c + " of eight", c < 4 ? 90 : 100, x.multiplier(c));
        }
        for (int c = 4; c < 8; c++) {
            x.resume(c);
            x.pause(c - 4);
        }
        x.request(0, 0, 4);
        x.pass(3);
        for (int c = 0; c < 8; c++) {
            CHECK.due("campaign " + c + " of eight, three ticks later", c < 4 ? 60 : 70, x.multiplier(c));
        }
    }

    /** The plan of the tick that passes counts, not that of the tick to come. */
    private static void controlledByThePlanBefore() {
        CHECK.quote("Then the present tick increases by 1.");
        AdMarketplace x = Check.open("day 10;tag t 15;campaign a 15 100 9 9 any;pace a even;");
        x.request(0, 0, 1);
        x.pass(1);
        CHECK.due("15 is more than 10, though less than 20", 90, x.multiplier(0));
        x.pass(1);
        CHECK.due("15 is less than 20", 95, x.multiplier(0));
        x.undo();
        x.undo();
        CHECK.due("pass(2) is two ticks", 2, x.pass(2));
        CHECK.due("pass(2) controls twice", 95, x.multiplier(0));
    }

    private static void newDay() {
        CHECK.quote("If a new day begins, the spent amounts become 0 and the multipliers 100.");
        AdMarketplace x = Check.open("day 4;slots 100 100 100;tag t 20;campaign a 20 20 9 9 any;campaign b 20 20 9 9 any;"
            + "campaign c 20 20 9 9 any;pace a even;");
        x.request(0, 0, 3);
        x.setMode(1, 2);
        x.pause(0);
        x.pass(3);
        int[] multipliers = {70, 70, 100};
        for (int c = 0; c < 3; c++) {
            CHECK.due("the last tick of the day: spent by " + c, 20, x.spent(c));
            CHECK.due("the last tick of the day: multiplier of " + c, multipliers[c], x.multiplier(c));
        }
        x.pass(1);
        for (int c = 0; c < 3; c++) {
            CHECK.due("a new day: spent by " + c, 0, x.spent(c));
            CHECK.due("a new day: multiplier of " + c, 100, x.multiplier(c));
        }
        CHECK.due("a new day: a is paused still", 1, x.refusal(0, 15, 0));
        CHECK.due("a new day: b's mode stays", 2, x.mode(1));
        CHECK.due("a new day: the impressions stay", 3, x.impressions());
        x.undo();
        CHECK.due("undone: spent", 20, x.spent(0));
        CHECK.due("undone: multiplier", 70, x.multiplier(0));
        CHECK.due("a day and more at once", 11, x.pass(8));
        CHECK.due("a day and more at once: spent", 0, x.spent(0));
        CHECK.due("a day and more at once: multiplier", 100, x.multiplier(0));
    }
}
