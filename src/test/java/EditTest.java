/** Promises 27 to 36 and the terms under ERRORS AND EDITS. */
final class EditTest {
    private static final Check CHECK = new Check("EditTest");

    public static void main(String[] args) {
        request();
        requestLimit();
        pass();
        passLimit();
        convert();
        convertLimit();
        pauseAndResume();
        setBid();
        setBudget();
        setMode();
        setFloor();
        wrongArguments();
        undoEach();
        undoEight();
        undoAfterUndo();
        CHECK.end();
    }

    /** Promise 27. */
    private static void request() {
        AdMarketplace x = Check.open("slots 100 50;tag t 4;tag u 0;campaign a 10 40 9 9 any;campaign b 8 40 1 9 any;"
            + "campaign c 6 40 9 9 u;");
        x.pass(3);
        CHECK.due("two slots", 2, x.request(15, 0, 2));
        CHECK.due("a spent", 8, x.spent(0));
        CHECK.due("b spent", 2, x.spent(1));
        CHECK.due("c spent", 0, x.spent(2));
        int[][] due = {{3, 15, 0, 0, 8}, {3, 15, 1, 1, 2}};
        for (int i = 0; i < due.length; i++) {
            for (int what = 0; what < 5; what++) {
                CHECK.due("impression " + i + ", " + what, due[i][what], x.impression(i, what));
            }
        }
        CHECK.due("two slots, b capped", 1, x.request(15, 0, 2));
        CHECK.due("one slot", 1, x.request(0, 0, 1));
        CHECK.due("impressions", 4, x.impressions());
        x.setFloor(0, 99);
        CHECK.due("nobody bids", 0, x.request(0, 0, 2));
        CHECK.due("a request that fills nothing is an edit all the same", 5, x.undo());
        CHECK.due("impressions stay", 4, x.impressions());
    }

    private static void requestLimit() {
        AdMarketplace x = Check.open("slots 1 1 1;tag t 0;campaign a 1 9999 9 1 any;campaign b 1 9999 9 1 any;");
        for (int i = 0; i < 79; i++) {
            x.request(i % 16, 0, 2);
            x.pass(1);
        }
        CHECK.due("impressions", 158, x.impressions());
        CHECK.state("158 and 3 slots, of which two would be filled", () -> x.request(0, 0, 3));
        CHECK.due("158 and 2", 2, x.request(0, 0, 2));
        CHECK.state("160 and 1", () -> x.request(1, 0, 1));
        x.pause(0);
        x.pause(1);
        CHECK.state("160 and 1, though none would be filled", () -> x.request(1, 0, 1));
        CHECK.argument("a wrong argument comes first", () -> x.request(16, 0, 1));
        CHECK.index("a wrong tag comes first of all", () -> x.request(16, 1, 1));
        x.undo();
        x.undo();
        CHECK.due("undo the request", 5, x.undo());
        CHECK.due("then there is room again", 2, x.request(0, 0, 2));
    }

    /** Promise 28. */
    private static void pass() {
        AdMarketplace x = Check.open("day 10;tag t 50;campaign a 50 100 9 9 any;pace a even;");
        x.request(0, 0, 1);
        CHECK.due("pass(1)", 1, x.pass(1));
        CHECK.due("controlled once", 90, x.multiplier(0));
        CHECK.due("pass(2)", 3, x.pass(2));
        CHECK.due("controlled twice more", 70, x.multiplier(0));
        CHECK.due("pass(200)", 203, x.pass(200));
        CHECK.due("the days went by", 0, x.spent(0));
        CHECK.due("one edit each", 3, x.undo());
        CHECK.due("tick", 3, x.tick());
    }

    private static void passLimit() {
        AdMarketplace x = new AdMarketplace();
        for (int i = 0; i < 49; i++) {
            x.pass(200);
        }
        CHECK.state("10000 ticks", () -> x.pass(200));
        CHECK.due("nothing changed", 9800, x.tick());
        CHECK.due("9999 ticks", 9999, x.pass(199));
        CHECK.state("one more", () -> x.pass(1));
        CHECK.argument("a wrong argument comes first", () -> x.pass(201));
    }

    /** Promise 29. */
    private static void convert() {
        AdMarketplace x = Check.open("attribute 5;slots 9 9;tag t 0;campaign a 9 900 9 9 any;campaign b 8 900 9 9 any;");
        CHECK.due("no impression yet", -1, x.convert(0, 1));
        x.request(0, 0, 2);
        CHECK.due("the latest impression of the request", 1, x.convert(0, 9999));
        CHECK.due("another user", -1, x.convert(1, 1));
        x.pass(1);
        x.request(0, 0, 1);
        CHECK.due("the latest request", 0, x.convert(0, 1));
        x.pass(5);
        CHECK.due("the end of the window", 0, x.convert(0, 1));
        x.pass(1);
        CHECK.due("beyond the window", -1, x.convert(0, 1));
        CHECK.due("conversions", 6, x.conversions());
    }

    private static void convertLimit() {
        AdMarketplace x = new AdMarketplace();
        for (int i = 0; i < 40; i++) {
            x.convert(i % 16, 1);
        }
        CHECK.due("conversions", 40, x.conversions());
        CHECK.state("one more", () -> x.convert(0, 1));
        CHECK.argument("a wrong argument comes first", () -> x.convert(0, 0));
        x.undo();
        CHECK.due("undone, there is room again", -1, x.convert(0, 1));
    }

    /** Promises 30 and 31. */
    private static void pauseAndResume() {
        AdMarketplace x = Check.open("tag t 4;campaign a 9 90 9 9 any;campaign b 5 90 9 9 any;");
        x.request(0, 0, 1);
        CHECK.state("resume without pause", () -> x.resume(0));
        CHECK.due("pause", 85, x.pause(0));
        CHECK.state("pause again", () -> x.pause(0));
        CHECK.due("the other one", 90, x.pause(1));
        CHECK.due("resume", 85, x.resume(0));
        CHECK.state("resume again", () -> x.resume(0));
        CHECK.due("not refused", 0, x.refusal(0, 0, 0));
        CHECK.due("refused", 1, x.refusal(1, 0, 0));
        CHECK.due("throwing is no edit", 3, x.undo());
        CHECK.due("undo resume", 1, x.refusal(0, 0, 0));
    }

    /** Promise 32. */
    private static void setBid() {
        AdMarketplace x = Check.open("campaign a 9 90 9 9 any;");
        CHECK.due("setBid", 9, x.setBid(0, 999));
        CHECK.due("setBid", 999, x.setBid(0, 1));
        CHECK.due("the same again", 1, x.setBid(0, 1));
        CHECK.due("which is an edit", 2, x.undo());
    }

    /** Promise 33. */
    private static void setBudget() {
        AdMarketplace x = Check.open("tag t 9;campaign a 9 90 9 9 any;");
        CHECK.due("setBudget", 90, x.setBudget(0, 9999));
        x.request(0, 0, 1);
        CHECK.due("as much as spent", 9999, x.setBudget(0, 9));
        CHECK.state("less than spent", () -> x.setBudget(0, 8));
        CHECK.argument("a wrong argument comes first", () -> x.setBudget(0, 0));
        CHECK.due("nothing changed", 9, x.budget(0));
        CHECK.due("throwing is no edit", 2, x.undo());
        x.pass(100);
        CHECK.due("the next day", 9999, x.setBudget(0, 1));
    }

    /** Promise 34. */
    private static void setMode() {
        AdMarketplace x = Check.open("day 9;tag t 9;campaign a 9 9 9 9 any;pace a even;campaign b 8 9 9 9 any;pace b even;");
        x.request(0, 0, 1);
        x.pause(0);
        x.setFloor(0, 8);
        x.request(0, 0, 1);
        x.pass(2);
        CHECK.due("multiplier", 80, x.multiplier(0));
        CHECK.due("setMode to the same", 1, x.setMode(0, 1));
        CHECK.due("the multiplier becomes 100", 100, x.multiplier(0));
        CHECK.due("the other one stays", 80, x.multiplier(1));
        CHECK.due("setMode(2)", 1, x.setMode(0, 2));
        CHECK.due("setMode(0)", 2, x.setMode(0, 0));
        CHECK.due("mode", 0, x.mode(0));
        x.undo();
        x.undo();
        x.undo();
        CHECK.due("undo brings the multiplier back", 80, x.multiplier(0));
    }

    /** Promise 35. */
    private static void setFloor() {
        AdMarketplace x = Check.open("tag t 9;tag u 8;");
        CHECK.due("setFloor", 9, x.setFloor(0, 0));
        CHECK.due("setFloor", 0, x.setFloor(0, 999));
        CHECK.due("floor", 999, x.floor(0));
        CHECK.due("the other floor", 8, x.floor(1));
    }

    private static void wrongArguments() {
        AdMarketplace x = Check.open("slots 9 8;tag t 4;campaign a 9 90 9 9 any;");
        for (int wrong : new int[] {-1, 1, Integer.MIN_VALUE, Integer.MAX_VALUE}) {
            CHECK.index("request for tag " + wrong, () -> x.request(-1, wrong, 0));
            CHECK.index("pause " + wrong, () -> x.pause(wrong));
            CHECK.index("resume " + wrong, () -> x.resume(wrong));
            CHECK.index("setBid of " + wrong, () -> x.setBid(wrong, 0));
            CHECK.index("setBudget of " + wrong, () -> x.setBudget(wrong, 0));
            CHECK.index("setMode of " + wrong, () -> x.setMode(wrong, 3));
            CHECK.index("setFloor of " + wrong, () -> x.setFloor(wrong, -1));
        }
        for (int wrong : new int[] {-1, 16, Integer.MIN_VALUE, Integer.MAX_VALUE}) {
            CHECK.argument("request for user " + wrong, () -> x.request(wrong, 0, 1));
            CHECK.argument("convert for user " + wrong, () -> x.convert(wrong, 1));
        }
        for (int wrong : new int[] {0, -1, 10000, Integer.MIN_VALUE, Integer.MAX_VALUE}) {
            CHECK.argument("request for slots " + wrong, () -> x.request(0, 0, wrong));
            CHECK.argument("pass " + wrong, () -> x.pass(wrong));
            CHECK.argument("convert the value " + wrong, () -> x.convert(0, wrong));
            CHECK.argument("setBid to " + wrong, () -> x.setBid(0, wrong));
            CHECK.argument("setBudget to " + wrong, () -> x.setBudget(0, wrong));
        }
        for (int wrong : new int[] {-1, 3, Integer.MIN_VALUE, Integer.MAX_VALUE}) {
            CHECK.argument("setMode to " + wrong, () -> x.setMode(0, wrong));
        }
        for (int wrong : new int[] {-1, 1000, Integer.MIN_VALUE, Integer.MAX_VALUE}) {
            CHECK.argument("setFloor to " + wrong, () -> x.setFloor(0, wrong));
        }
        CHECK.argument("request for 3 slots", () -> x.request(0, 0, 3));
        CHECK.argument("pass(201)", () -> x.pass(201));
        CHECK.argument("setBid to 1000", () -> x.setBid(0, 1000));
        CHECK.due("nothing of that was an edit", -1, x.undo());
        CHECK.due("nothing changed", "a fast: 0/90 at 9", Check.output(x, x.write(0)));
    }

    /** Promise 36: every edit, undone alone. */
    private static void undoEach() {
        AdMarketplace x = Check.open("day 3;attribute 9;slots 9 9;tag t 50;campaign a 60 900 9 9 any;pace a even;"
            + "campaign b 60 900 9 9 any;");
        x.request(2, 0, 1);
        x.pause(1);
        Check.Call[] edits = {
            () -> x.request(1, 0, 2), () -> x.pass(1), () -> x.pass(200), () -> x.convert(2, 5), () -> x.pause(0),
            () -> x.resume(1), () -> x.setBid(0, 77), () -> x.setBudget(0, 700), () -> x.setMode(0, 2),
            () -> x.setFloor(0, 60),
        };
        String before = everything(x);
        for (int i = 0; i < edits.length; i++) {
            edits[i].run();
            CHECK.due("edit " + i + " changes something", false, before.equals(everything(x)));
            CHECK.due("undo edit " + i, 2, x.undo());
            CHECK.due("undo edit " + i + " puts everything back", before, everything(x));
        }
        for (Check.Call edit : edits) {
            edit.run();
        }
        CHECK.due("all are edits", 7, x.undo());
    }

    private static String everything(AdMarketplace x) {
        StringBuilder s = new StringBuilder();
        s.append(x.tick()).append(' ').append(x.floor(0)).append(' ').append(x.impressions()).append(' ')
            .append(x.conversions()).append(' ').append(x.unattributed()).append(' ').append(x.revenue());
        for (int c = 0; c < x.campaigns(); c++) {
            s.append(" | ").append(x.bid(c)).append(' ').append(x.budget(c)).append(' ').append(x.spent(c)).append(' ')
                .append(x.multiplier(c)).append(' ').append(x.mode(c)).append(' ').append(x.plan(c)).append(' ')
                .append(x.refusal(c, 0, 0)).append(' ').append(x.recent(c, 1)).append(' ').append(x.reach(c))
                .append(' ').append(x.credit(c, 0));
        }
        return s.toString();
    }

    private static void undoEight() {
        AdMarketplace x = Check.open("campaign a 1 90 9 9 any;");
        CHECK.due("nothing to undo", -1, x.undo());
        for (int bid = 2; bid <= 12; bid++) {
            x.setBid(0, bid);
        }
        for (int left = 7; left >= 0; left--) {
            CHECK.due("undo", left, x.undo());
            CHECK.due("bid then", left + 4, x.bid(0));
        }
        CHECK.due("only eight are remembered", -1, x.undo());
        CHECK.due("nothing changed", 4, x.bid(0));
    }

    private static void undoAfterUndo() {
        AdMarketplace x = Check.open("tag t 1;campaign a 1 90 9 9 any;campaign b 2 90 9 9 any;");
        x.request(0, 0, 1);
        x.request(1, 0, 1);
        CHECK.due("undo", 1, x.undo());
        x.pause(1);
        x.request(2, 0, 1);
        x.convert(2, 7);
        CHECK.due("the second impression is another one now", 2, x.impression(1, 1));
        CHECK.due("its campaign too", 0, x.impression(1, 2));
        x.write(0);
        CHECK.due("undo convert", 3, x.undo());
        CHECK.due("undo request", 2, x.undo());
        CHECK.due("the output stays", "a fast: 1/90 at 1, seen by 1", Check.output(x, 28));
        CHECK.due("undo pause", 1, x.undo());
        CHECK.due("undo the first request", 0, x.undo());
        CHECK.due("none is left", -1, x.undo());
        CHECK.due("impressions", 0, x.impressions());
        CHECK.due("revenue", 0, x.revenue());
        x.pass(5);
        Check.load(x, "day 5;");
        CHECK.due("a load forgets all edits", -1, x.undo());
    }
}
