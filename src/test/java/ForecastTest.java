/** Promises 24 to 26. */
final class ForecastTest {
    private static final Check CHECK = new Check("ForecastTest");

    public static void main(String[] args) {
        revenueAfter();
        users();
        days();
        limitsDoNotApply();
        multiplierAfter();
        bestMode();
        wrongArguments();
        nothingChanges();
        CHECK.end();
    }

    /** Promise 24. */
    private static void revenueAfter() {
        AdMarketplace x = Check.open("slots 100 50;tag t 2;campaign a 9 27 9 99 any;campaign b 7 900 9 99 any;");
        CHECK.due("one slot, one tick", 7, x.revenueAfter(0, 1, 1));
        CHECK.due("two slots, one tick", 8, x.revenueAfter(0, 2, 1));
        CHECK.due("a can pay 7 three times, then b pays the floor", 25, x.revenueAfter(0, 1, 5));
        CHECK.due("two slots, five ticks", 24 + 4, x.revenueAfter(0, 2, 5));
        x.request(0, 0, 1);
        CHECK.due("only what these requests would pay counts", 7 + 7 + 2, x.revenueAfter(0, 1, 3));
        x.pause(0);
        x.pause(1);
        CHECK.due("nobody pays", 0, x.revenueAfter(0, 1, 60));
    }

    /** User 0 comes first, user 0 again behind user 15; caps tell them apart. */
    private static void users() {
        AdMarketplace x = Check.open("tag t 1;campaign a 1 900 1 999 any;");
        CHECK.due("16 users once each", 16, x.revenueAfter(0, 1, 60));
        CHECK.due("15 users", 15, x.revenueAfter(0, 1, 15));
        x.request(0, 0, 1);
        CHECK.due("user 0 has seen it: the first tick", 0, x.revenueAfter(0, 1, 1));
        CHECK.due("user 1 has not", 1, x.revenueAfter(0, 1, 2));
        AdMarketplace y = Check.open("tag t 1;campaign a 1 900 1 16 any;");
        CHECK.due("a window of 16 ticks ends before user 0 comes again", 60, y.revenueAfter(0, 1, 60));
        AdMarketplace z = Check.open("tag t 1;campaign a 1 900 1 17 any;");
        CHECK.due("a window of 17 ticks does not", 16 + 16, z.revenueAfter(0, 1, 48));
    }

    private static void days() {
        AdMarketplace x = Check.open("day 4;tag t 5;campaign a 5 10 9 1 any;");
        CHECK.due("10 each day", 10 + 10 + 5, x.revenueAfter(0, 1, 9));
        x.pass(3);
        CHECK.due("the day ends behind the first tick", 5 + 10 + 10, x.revenueAfter(0, 1, 8));
    }

    private static void limitsDoNotApply() {
        AdMarketplace x = Check.open("day 1;slots 100 100 100 100;tag t 1;campaign a 1 9 9 1 any;campaign b 1 9 9 1 any;"
            + "campaign c 1 9 9 1 any;campaign d 1 9 9 1 any;");
        for (int i = 0; i < 40; i++) {
            CHECK.due("request", 4, x.request(i % 16, 0, 4));
            x.pass(1);
        }
        CHECK.due("160 impressions", 160, x.impressions());
        CHECK.due("240 more", 240, x.revenueAfter(0, 4, 60));
        CHECK.due("the multiplier behind them", 100, x.multiplierAfter(0, 0, 4, 60));
        CHECK.due("the mode", 0, x.bestMode(0, 0, 4, 60));
        CHECK.due("160 impressions still", 160, x.impressions());
        for (int i = 0; i < 49; i++) {
            x.pass(200);
        }
        x.pass(159);
        CHECK.due("the last tick", 9999, x.tick());
        CHECK.due("240 more behind the last tick", 240, x.revenueAfter(0, 4, 60));
        CHECK.due("the last tick still", 9999, x.tick());
    }

    /** Promise 25. */
    private static void multiplierAfter() {
        AdMarketplace x = Check.open("day 100;tag t 10;campaign a 10 100 9 99 any;campaign b 10 100 9 99 any;pace a even;");
        CHECK.due("one tick", 90, x.multiplierAfter(0, 0, 1, 1));
        CHECK.due("nine ticks", 10, x.multiplierAfter(0, 0, 1, 9));
        CHECK.due("ten ticks: the plan is met at tick 9", 10, x.multiplierAfter(0, 0, 1, 10));
        CHECK.due("twelve ticks", 20, x.multiplierAfter(0, 0, 1, 12));
        CHECK.due("a fast one", 100, x.multiplierAfter(1, 0, 1, 12));
        CHECK.due("now", 100, x.multiplier(0));
        x.pass(90);
        CHECK.due("a new day begins", 100, x.multiplierAfter(0, 0, 1, 10));
    }

    /** Promise 26. */
    private static void bestMode() {
        AdMarketplace x = Check.open("day 100;tag t 1;campaign a 10 100 9 99 any;campaign b 9 900 9 99 any;");
        CHECK.due("no rival is worth pacing for one tick", 0, x.bestMode(0, 0, 1, 1));
        AdMarketplace y = Check.open("day 60;tag t 1;campaign a 10 60 9 1 any;campaign b 9 18 9 1 any;");
        CHECK.due("waiting until the rival's budget is gone", 1, y.bestMode(0, 0, 1, 60));
        CHECK.due("the mode stays", 0, y.mode(0));
        y.setMode(0, 2);
        CHECK.due("whatever the mode is now", 1, y.bestMode(0, 0, 1, 60));
        CHECK.due("the mode stays strict", 2, y.mode(0));
        y.pause(0);
        CHECK.due("never shown: the smallest mode", 0, y.bestMode(0, 0, 1, 60));
        AdMarketplace z = Check.open("day 7;tag t 1;campaign a 9 24 9 1 any;campaign b 8 9 9 1 any;");
        CHECK.due("two impressions fast, three even, five strict", 2, z.bestMode(0, 0, 1, 7));
        multiplierIsSet();
    }

    /** An even campaign whose multiplier is low would be shown at once if its mode were set, even to even. */
    private static void multiplierIsSet() {
        AdMarketplace x = Check.open("day 50;tag t 8;campaign a 10 50 9 1 any;pace a even;");
        x.request(0, 0, 1);
        x.request(0, 0, 1);
        x.pass(3);
        CHECK.due("multiplier", 70, x.multiplier(0));
        CHECK.due("refused below the floor now", 6, x.refusal(0, 0, 0));
        CHECK.due("nothing is earned in the next tick", 0, x.revenueAfter(0, 1, 1));
        CHECK.due("fast is the smallest mode of two that are shown once", 0, x.bestMode(0, 0, 1, 1));
        x.setMode(0, 1);
        CHECK.due("with its multiplier 100 it is shown", 8, x.revenueAfter(0, 1, 1));
    }

    private static void wrongArguments() {
        AdMarketplace x = Check.open("slots 9 8;tag t 0;campaign a 5 90 9 9 any;");
        for (int wrong : new int[] {-1, 1, Integer.MIN_VALUE, Integer.MAX_VALUE}) {
            CHECK.index("revenueAfter for tag " + wrong, () -> x.revenueAfter(wrong, 0, 0));
            CHECK.index("multiplierAfter for tag " + wrong, () -> x.multiplierAfter(0, wrong, 0, 0));
            CHECK.index("multiplierAfter of campaign " + wrong, () -> x.multiplierAfter(wrong, 0, 0, 0));
            CHECK.index("bestMode for tag " + wrong, () -> x.bestMode(0, wrong, 0, 0));
            CHECK.index("bestMode of campaign " + wrong, () -> x.bestMode(wrong, 0, 0, 0));
        }
        for (int wrong : new int[] {-1, 0, 3, Integer.MIN_VALUE, Integer.MAX_VALUE}) {
            CHECK.argument("revenueAfter for slots " + wrong, () -> x.revenueAfter(0, wrong, 1));
            CHECK.argument("multiplierAfter for slots " + wrong, () -> x.multiplierAfter(0, 0, wrong, 1));
            CHECK.argument("bestMode for slots " + wrong, () -> x.bestMode(0, 0, wrong, 1));
        }
        for (int wrong : new int[] {-1, 0, 61, Integer.MIN_VALUE, Integer.MAX_VALUE}) {
            CHECK.argument("revenueAfter for ticks " + wrong, () -> x.revenueAfter(0, 1, wrong));
            CHECK.argument("multiplierAfter for ticks " + wrong, () -> x.multiplierAfter(0, 0, 1, wrong));
            CHECK.argument("bestMode for ticks " + wrong, () -> x.bestMode(0, 0, 1, wrong));
        }
        CHECK.due("60 ticks are in range", 0, x.revenueAfter(0, 1, 60));
    }

    private static void nothingChanges() {
        AdMarketplace x = Check.open("day 7;slots 90 80;tag t 3;campaign a 5 90 9 9 any;campaign b 6 90 9 9 any;pace a even;");
        x.request(4, 0, 2);
        x.pass(2);
        x.convert(4, 10);
        int spent = x.spent(0);
        int multiplier = x.multiplier(0);
        x.revenueAfter(0, 2, 30);
        x.multiplierAfter(0, 0, 2, 30);
        x.bestMode(0, 0, 2, 30);
        CHECK.due("spent", spent, x.spent(0));
        CHECK.due("multiplier", multiplier, x.multiplier(0));
        CHECK.due("mode", 1, x.mode(0));
        CHECK.due("tick", 2, x.tick());
        CHECK.due("impressions", 2, x.impressions());
        CHECK.due("conversions", 1, x.conversions());
        CHECK.due("plan", 90 * 3 / 7, x.plan(0));
        CHECK.due("recent for user 0", 0, x.recent(0, 0));
        CHECK.due("edits are remembered", 2, x.undo());
        CHECK.due("edits are undone as ever", 1, x.undo());
        CHECK.due("edits are undone as ever: tick", 0, x.tick());
    }
}
