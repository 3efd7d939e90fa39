/** Promises 37 to 49 and the terms under CONVERSIONS. */
final class ReportTest {
    private static final Check CHECK = new Check("ReportTest");

    public static void main(String[] args) {
        impressions();
        reachAndFrequency();
        recent();
        topUser();
        meanPrice();
        credits();
        creditsAreAddedInOrder();
        attribution();
        unattributed();
        write();
        written();
        wrongArguments();
        CHECK.end();
    }

    /** Promises 37, 38 and 39. */
    private static void impressions() {
        AdMarketplace x = Check.open("slots 100 50;tag t 3;campaign a 9 90 9 9 any;campaign b 7 90 9 9 any;");
        CHECK.due("impressions", 0, x.impressions());
        CHECK.due("revenue", 0, x.revenue());
        CHECK.index("no impression yet", () -> x.impression(0, 0));
        x.request(5, 0, 2);
        x.pass(4);
        x.pause(0);
        x.request(6, 0, 1);
        CHECK.due("impressions", 3, x.impressions());
        int[][] due = {{0, 5, 0, 0, 7}, {0, 5, 1, 1, 2}, {4, 6, 1, 0, 3}};
        for (int i = 0; i < due.length; i++) {
            for (int what = 0; what < 5; what++) {
                CHECK.due("impression " + i + ", " + what, due[i][what], x.impression(i, what));
            }
        }
        CHECK.due("revenue", 12, x.revenue());
        x.pass(200);
        CHECK.due("revenue of all days", 12, x.revenue());
        for (int wrong : new int[] {-1, 3, 160, Integer.MIN_VALUE, Integer.MAX_VALUE}) {
            CHECK.index("impression " + wrong, () -> x.impression(wrong, 9));
        }
        for (int wrong : new int[] {-1, 5, Integer.MIN_VALUE, Integer.MAX_VALUE}) {
            CHECK.argument("part " + wrong, () -> x.impression(0, wrong));
        }
    }

    /** Promises 40 and 41. */
    private static void reachAndFrequency() {
        AdMarketplace x = Check.open("tag t 1;campaign a 9 900 9 9 any;campaign b 8 900 9 9 any;");
        CHECK.due("reach of nobody", 0, x.reach(0));
        CHECK.due("frequency of nothing", 0.0, x.frequency(0));
        int[] users = {0, 15, 0, 3, 0};
        for (int user : users) {
            x.request(user, 0, 1);
        }
        CHECK.due("reach", 3, x.reach(0));
        CHECK.due("frequency", 5.0 / 3, x.frequency(0));
        CHECK.due("the other one's reach", 0, x.reach(1));
        x.pause(0);
        for (int user = 0; user < 16; user++) {
            x.request(user, 0, 1);
        }
        CHECK.due("all users", 16, x.reach(1));
        CHECK.due("once each", 1.0, x.frequency(1));
        x.pass(200);
        CHECK.due("all time counts", 3, x.reach(0));
    }

    /** Promise 42. */
    private static void recent() {
        AdMarketplace x = Check.open("tag t 1;campaign a 9 900 9 3 any;campaign b 8 900 9 9 any;");
        x.request(4, 0, 1);
        x.request(4, 0, 1);
        x.pass(1);
        x.request(4, 0, 1);
        x.request(5, 0, 1);
        CHECK.due("recent", 3, x.recent(0, 4));
        CHECK.due("another user", 1, x.recent(0, 5));
        CHECK.due("another campaign", 0, x.recent(1, 4));
        x.pass(1);
        CHECK.due("two ticks later", 3, x.recent(0, 4));
        x.pass(1);
        CHECK.due("the first two are too old", 1, x.recent(0, 4));
        x.pass(1);
        CHECK.due("all are too old", 0, x.recent(0, 4));
    }

    /** Promise 43. */
    private static void topUser() {
        AdMarketplace x = Check.open("slots 9 9;tag t 1;campaign a 9 900 9 9 any;campaign b 8 900 9 9 any;");
        CHECK.due("nobody", -1, x.topUser());
        x.request(15, 0, 1);
        CHECK.due("the only one", 15, x.topUser());
        x.request(3, 0, 1);
        CHECK.due("the smaller of two", 3, x.topUser());
        x.request(15, 0, 1);
        CHECK.due("the most impressions", 15, x.topUser());
        x.request(0, 0, 2);
        CHECK.due("impressions count, not requests", 0, x.topUser());
        x.undo();
        CHECK.due("undone", 15, x.topUser());
    }

    /** Promise 44. */
    private static void meanPrice() {
        AdMarketplace x = Check.open("slots 100 50;tag t 4;campaign a 9 900 9 9 any;campaign b 7 900 9 9 any;");
        CHECK.due("none", 0.0, x.meanPrice(0));
        x.request(0, 0, 2);
        x.request(0, 0, 1);
        x.pause(0);
        x.request(0, 0, 1);
        CHECK.due("7, 7 and 4", 6.0, x.meanPrice(0));
        CHECK.due("2", 2.0, x.meanPrice(1));
        x.setFloor(0, 5);
        x.request(0, 0, 1);
        CHECK.due("7, 7, 4 and 5", 5.75, x.meanPrice(0));
        for (int wrong : new int[] {-1, 2, 4, Integer.MIN_VALUE, Integer.MAX_VALUE}) {
            CHECK.argument("meanPrice of slot " + wrong, () -> x.meanPrice(wrong));
        }
    }

    /** Promises 45 and 46. */
    private static void credits() {
        AdMarketplace x = Check.open("attribute 5;slots 9 9;tag t 0;campaign a 9 900 9 9 any;campaign b 8 900 9 9 any;"
            + "campaign c 7 900 9 9 any;");
        CHECK.due("no conversions", 0, x.conversions());
        CHECK.due("no credit", 0.0, x.credit(0, 2));
        x.request(0, 0, 2);
        x.pass(1);
        x.pause(1);
        x.request(0, 0, 2);
        x.convert(0, 100);
        CHECK.due("conversions", 1, x.conversions());
        double[][] due = {{0.0, 100.0, 50.0}, {0.0, 0.0, 25.0}, {100.0, 0.0, 25.0}};
        for (int c = 0; c < 3; c++) {
            for (int model = 0; model < 3; model++) {
                CHECK.due("credit of " + c + " by " + model, due[c][model], x.credit(c, model));
            }
        }
        x.convert(0, 1);
        x.convert(1, 5);
        CHECK.due("two of them: last", 101.0, x.credit(2, 0));
        CHECK.due("two of them: first", 101.0, x.credit(0, 1));
        CHECK.due("two of them: even", 25.25, x.credit(1, 2));
        x.undo();
        x.undo();
        CHECK.due("undone", 100.0, x.credit(2, 0));
    }

    /** The doubles are added in the order of the conversions. */
    private static void creditsAreAddedInOrder() {
        AdMarketplace x = Check.open("slots 9 9 9;tag t 0;campaign a 9 900 9 9 any;campaign b 8 900 9 9 any;"
            + "campaign c 7 900 9 9 any;");
        x.request(0, 0, 3);
        int[] values = {1, 9998, 7, 5000, 11, 2};
        double sum = 0.0;
        for (int value : values) {
            x.convert(0, value);
            sum += (double) value / 3;
        }
        CHECK.due("credit", sum, x.credit(1, 2));
        x.request(0, 0, 2);
        x.convert(0, 7);
        CHECK.due("value * 2 / 5", sum + 14.0 / 5, x.credit(0, 2));
        CHECK.due("value * 1 / 5", sum + 7.0 / 5, x.credit(2, 2));
    }

    private static void attribution() {
        AdMarketplace x = Check.open("tag t 0;campaign a 9 900 9 9 any;campaign b 8 900 9 9 any;");
        x.request(0, 0, 1);
        x.pass(50);
        CHECK.due("50 ticks without an attribute statement", 0, x.convert(0, 3));
        x.pause(0);
        x.request(0, 0, 1);
        CHECK.due("an impression behind it, at the same tick, does not count", 3.0, x.credit(0, 0));
        CHECK.due("the other campaign has no credit", 0.0, x.credit(1, 2));
        x.pass(1);
        CHECK.due("51 ticks are too many", 1, x.convert(0, 4));
        CHECK.due("the first one within the window", 4.0, x.credit(1, 1));
        CHECK.due("credit stays", 3.0, x.credit(0, 1));
    }

    /** Promise 47. */
    private static void unattributed() {
        AdMarketplace x = Check.open("attribute 1;tag t 0;campaign a 9 900 9 9 any;");
        CHECK.due("none", 0, x.unattributed());
        x.convert(0, 3);
        CHECK.due("no impression", 3, x.unattributed());
        x.request(0, 0, 1);
        x.convert(0, 5);
        CHECK.due("attributed", 3, x.unattributed());
        x.convert(1, 9999);
        CHECK.due("another user", 10002, x.unattributed());
        x.pass(2);
        x.convert(0, 7);
        CHECK.due("too late", 10009, x.unattributed());
    }

    /** Promise 48. */
    private static void write() {
        AdMarketplace x = Check.open("day 10;tag t 20;campaign sneaky 30 100 9 9 any;campaign abcdefghij 25 9999 9 9 any;"
            + "campaign c 1 1 1 1 any;pace abcdefghij even;pace c strict;");
        CHECK.due("fast", "sneaky fast: 0/100 at 30", Check.output(x, x.write(0)));
        CHECK.due("even", "abcdefghij even: 0/9999 at 25", Check.output(x, x.write(1)));
        CHECK.due("strict", "c strict: 0/1 at 1", Check.output(x, x.write(2)));
        CHECK.due("in place of what the output has", 18, x.write(2));
        CHECK.index("no character of the longer text before", () -> x.written(18));
        x.pause(2);
        CHECK.due("paused", "c strict: 0/1 at 1 paused", Check.output(x, x.write(2)));
        x.request(0, 0, 1);
        x.request(1, 0, 1);
        x.request(1, 0, 1);
        CHECK.due("seen", "sneaky fast: 75/100 at 30, seen by 2", Check.output(x, x.write(0)));
        x.pause(0);
        CHECK.due("paused and seen", "sneaky fast: 75/100 at 30 paused, seen by 2", Check.output(x, x.write(0)));
        x.setMode(0, 1);
        x.pass(1);
        CHECK.due("the effective bid", "sneaky even: 75/100 at 27 paused, seen by 2", Check.output(x, x.write(0)));
        x.pass(9);
        CHECK.due("the next day", "sneaky even: 0/100 at 30 paused, seen by 2", Check.output(x, x.write(0)));
    }

    /** Promise 49. */
    private static void written() {
        AdMarketplace x = Check.open("campaign a 1 1 1 1 any;");
        CHECK.index("nothing was written yet", () -> x.written(0));
        CHECK.due("length", 16, x.write(0));
        CHECK.due("the first character", 'a', x.written(0));
        CHECK.due("a space", ' ', x.written(1));
        CHECK.due("the last character", '1', x.written(15));
        CHECK.index("behind the last", () -> x.written(16));
        CHECK.index("before the first", () -> x.written(-1));
        CHECK.index("the smallest index", () -> x.written(Integer.MIN_VALUE));
        CHECK.index("the greatest index", () -> x.written(Integer.MAX_VALUE));
        x.setBid(0, 999);
        CHECK.due("the output stays as it was written", "a fast: 0/1 at 1", Check.output(x, 16));
    }

    private static void wrongArguments() {
        AdMarketplace x = Check.open("tag t 1;campaign a 9 90 9 9 any;");
        for (int wrong : new int[] {-1, 1, 8, Integer.MIN_VALUE, Integer.MAX_VALUE}) {
            CHECK.index("reach of " + wrong, () -> x.reach(wrong));
            CHECK.index("frequency of " + wrong, () -> x.frequency(wrong));
            CHECK.index("recent of " + wrong, () -> x.recent(wrong, -1));
            CHECK.index("credit of " + wrong, () -> x.credit(wrong, -1));
            CHECK.index("write " + wrong, () -> x.write(wrong));
        }
        for (int wrong : new int[] {-1, 16, Integer.MIN_VALUE, Integer.MAX_VALUE}) {
            CHECK.argument("recent for user " + wrong, () -> x.recent(0, wrong));
        }
        for (int wrong : new int[] {-1, 3, Integer.MIN_VALUE, Integer.MAX_VALUE}) {
            CHECK.argument("credit by model " + wrong, () -> x.credit(0, wrong));
        }
    }
}
