/** Promises 6 to 17 and the terms under TIME AND PACING. */
final class CampaignTest {
    private static final Check CHECK = new Check("CampaignTest");

    public static void main(String[] args) {
        counts();
        numbers();
        wrongIndexes();
        plans();
        multiplierFalls();
        multiplierRises();
        multiplierStays();
        newDay();
        everyTickADay();
        CHECK.end();
    }

    /** Promises 6, 7, 8 and 17. */
    private static void counts() {
        AdMarketplace x = Check.open("slots 9 8 7;tag t 5;tag u 6;campaign a 1 1 1 1 any;");
        CHECK.due("campaigns", 1, x.campaigns());
        CHECK.due("tags", 2, x.tags());
        CHECK.due("slots", 3, x.slots());
        CHECK.due("tick", 0, x.tick());
        x.pass(3);
        CHECK.due("tick after pass(3)", 3, x.tick());
    }

    /** Promises 9 to 16. */
    private static void numbers() {
        AdMarketplace x = Check.open("day 10;tag t 5;tag u 999;campaign a 7 95 1 1 any;campaign b 999 9999 2 3 u;"
            + "campaign c 1 1 1 1 t;pace b even;pace c strict;");
        CHECK.due("floor(0)", 5, x.floor(0));
        CHECK.due("floor(1)", 999, x.floor(1));
        CHECK.due("bid(0)", 7, x.bid(0));
        CHECK.due("bid(1)", 999, x.bid(1));
        CHECK.due("effectiveBid(0)", 7, x.effectiveBid(0));
        CHECK.due("multiplier(1)", 100, x.multiplier(1));
        CHECK.due("budget(0)", 95, x.budget(0));
        CHECK.due("budget(1)", 9999, x.budget(1));
        CHECK.due("spent(0)", 0, x.spent(0));
        CHECK.due("plan(0), rounded down", 9, x.plan(0));
        CHECK.due("mode(0)", 0, x.mode(0));
        CHECK.due("mode(1)", 1, x.mode(1));
        CHECK.due("mode(2)", 2, x.mode(2));
        x.setFloor(0, 6);
        x.setBid(0, 8);
        x.setBudget(0, 96);
        x.setMode(0, 2);
        CHECK.due("floor set", 6, x.floor(0));
        CHECK.due("bid set", 8, x.bid(0));
        CHECK.due("budget set", 96, x.budget(0));
        CHECK.due("mode set", 2, x.mode(0));
        CHECK.due("the other floor stays", 999, x.floor(1));
        CHECK.due("the other bid stays", 999, x.bid(1));
    }

    private static void wrongIndexes() {
        AdMarketplace x = Check.open("tag t 5;campaign a 7 95 1 1 any;campaign b 7 95 1 1 any;");
        for (int wrong : new int[] {-1, 2, 8, Integer.MIN_VALUE, Integer.MAX_VALUE}) {
            CHECK.index("bid(" + wrong + ")", () -> x.bid(wrong));
            CHECK.index("effectiveBid(" + wrong + ")", () -> x.effectiveBid(wrong));
            CHECK.index("multiplier(" + wrong + ")", () -> x.multiplier(wrong));
            CHECK.index("budget(" + wrong + ")", () -> x.budget(wrong));
            CHECK.index("spent(" + wrong + ")", () -> x.spent(wrong));
            CHECK.index("plan(" + wrong + ")", () -> x.plan(wrong));
            CHECK.index("mode(" + wrong + ")", () -> x.mode(wrong));
        }
        for (int wrong : new int[] {-1, 1, 6, Integer.MIN_VALUE, Integer.MAX_VALUE}) {
            CHECK.index("floor(" + wrong + ")", () -> x.floor(wrong));
        }
    }

    private static void plans() {
        AdMarketplace x = Check.open("day 7;campaign a 7 100 1 1 any;");
        int[] due = {14, 28, 42, 57, 71, 85, 100, 14, 28};
        for (int tick = 0; tick < due.length; tick++) {
            CHECK.due("plan at tick " + tick, due[tick], x.plan(0));
            x.pass(1);
        }
        AdMarketplace y = Check.open("campaign a 7 9999 1 1 any;");
        CHECK.due("a day of 100 ticks: the first plan", 99, y.plan(0));
        y.pass(99);
        CHECK.due("a day of 100 ticks: the last plan", 9999, y.plan(0));
        y.pass(1);
        CHECK.due("a day of 100 ticks: the next day", 99, y.plan(0));
    }

    /** The campaign spends 40 at once, the plan is 1 for each tick. */
    private static void multiplierFalls() {
        AdMarketplace x = Check.open("day 100;tag t 40;campaign a 55 100 9 9 any;pace a even;campaign b 60 100 9 9 any;");
        x.pause(1);
        x.request(0, 0, 1);
        CHECK.due("spent", 40, x.spent(0));
        int[] due = {90, 80, 70, 60, 50, 40, 30, 20, 10, 10, 10};
        for (int i = 0; i < due.length; i++) {
            x.pass(1);
            CHECK.due("multiplier at tick " + (i + 1), due[i], x.multiplier(0));
        }
        CHECK.due("effective bid, rounded up", 6, x.effectiveBid(0));
        CHECK.due("the bid stays", 55, x.bid(0));
        CHECK.due("a fast campaign is not controlled", 100, x.multiplier(1));
        x.pass(29);
        CHECK.due("at tick 40 the plan of tick 39, 40, is met: it stays", 10, x.multiplier(0));
        x.pass(1);
        CHECK.due("less than the plan", 15, x.multiplier(0));
        x.setBudget(0, 40);
        x.pass(1);
        CHECK.due("more again: not below 10", 10, x.multiplier(0));
    }

    private static void multiplierRises() {
        AdMarketplace x = Check.open("day 100;tag t 3;campaign a 3 100 9 9 any;pace a strict;campaign b 9 1 1 1 any;");
        x.request(0, 0, 1);
        x.pass(2);
        CHECK.due("a strict one is controlled too", 80, x.multiplier(0));
        x.pause(0);
        x.pass(1);
        CHECK.due("spent as planned: it stays, paused", 80, x.multiplier(0));
        int[] due = {85, 90, 95, 100, 100};
        for (int i = 0; i < due.length; i++) {
            x.pass(1);
            CHECK.due("a paused one is controlled too: tick " + x.tick(), due[i], x.multiplier(0));
        }
    }

    private static void multiplierStays() {
        AdMarketplace x = Check.open("day 10;tag t 5;campaign a 5 50 9 9 any;pace a even;");
        x.request(0, 0, 1);
        x.setMode(0, 1);
        x.pass(1);
        CHECK.due("spent what is planned", 100, x.multiplier(0));
        x.request(0, 0, 1);
        x.request(1, 0, 1);
        x.pass(1);
        CHECK.due("spent more than planned", 90, x.multiplier(0));
        x.setMode(0, 0);
        x.pass(1);
        CHECK.due("a mode set makes the multiplier 100", 100, x.multiplier(0));
    }

    private static void newDay() {
        AdMarketplace x = Check.open("day 5;tag t 40;campaign a 40 100 9 99 any;pace a even;campaign b 50 100 9 99 any;");
        x.request(0, 0, 1);
        x.pause(1);
        x.request(0, 0, 1);
        x.pass(1);
        CHECK.due("a spent", 40, x.spent(0));
        CHECK.due("b spent", 40, x.spent(1));
        CHECK.due("a's multiplier", 90, x.multiplier(0));
        x.pass(3);
        CHECK.due("the last tick of the day: spent", 40, x.spent(0));
        x.pass(1);
        CHECK.due("a new day: a spent", 0, x.spent(0));
        CHECK.due("a new day: b spent", 0, x.spent(1));
        CHECK.due("a new day: multiplier", 100, x.multiplier(0));
        CHECK.due("a new day: impressions stay", 2, x.impressions());
        CHECK.due("a new day: b is still paused", 1, x.refusal(1, 0, 0));
        x.request(0, 0, 1);
        x.pass(4);
        CHECK.due("the second day lasts as long", 40, x.spent(0));
        x.pass(1);
        CHECK.due("the third day", 0, x.spent(0));
    }

    private static void everyTickADay() {
        AdMarketplace x = Check.open("day 1;tag t 4;campaign a 4 9 9 9 any;pace a strict;");
        CHECK.due("the plan is the budget", 9, x.plan(0));
        x.request(0, 0, 1);
        x.request(0, 0, 1);
        CHECK.due("spent", 8, x.spent(0));
        x.pass(1);
        CHECK.due("spent then", 0, x.spent(0));
        CHECK.due("multiplier then", 100, x.multiplier(0));
    }
}
