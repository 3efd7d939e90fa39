/** The sentences of promises 37 to 49 that name a boundary case, in the order of the document. */
final class ReportEdgeTest {
    private static final Check CHECK = new Check("ReportEdgeTest");
    private static final String ONE = "slots 100 100;tag t 1;campaign a 9 9999 9 5 any;campaign b 8 9999 9 999 any;";

    public static void main(String[] args) {
        impressions();
        impressionParts();
        revenue();
        reach();
        frequency();
        recent();
        topUser();
        meanPrice();
        conversions();
        credit();
        unattributed();
        write();
        writeLongest();
        written();
        CHECK.end();
    }

    private static void impressions() {
        CHECK.quote("`int impressions()`: Returns the number of impressions.");
        AdMarketplace x = Check.open(ONE);
        CHECK.due("none", 0, x.impressions());
        x.request(0, 0, 1);
        CHECK.due("one", 1, x.impressions());
        x.request(0, 0, 2);
        CHECK.due("three", 3, x.impressions());
        x.undo();
        CHECK.due("undone", 1, x.impressions());
        x.undo();
        CHECK.due("none again", 0, x.impressions());
        CHECK.index("none to be asked for", () -> x.impression(0, 0));
    }

    private static void impressionParts() {
        CHECK.quote("- `what`: 0 for the tick, 1 for the user, 2 for the campaign, 3 for the slot, 4 for the price");
        Twins busy = new Twins(CHECK, Busy::grow);
        int[][] due = {{0, 0, 0, 0, 15}, {0, 0, 1, 1, 5}, {1, 15, 0, 0, 10}, {1, 1, 0, 0, 10}};
        for (int i = 0; i < due.length; i++) {
            for (int what = 0; what < 5; what++) {
                int at = i;
                int part = what;
                busy.answers("part " + what + " of impression " + i, due[i][what], x -> x.impression(at, part));
            }
        }
        busy.argument("part -1", x -> x.impression(0, -1));
        busy.argument("part 5", x -> x.impression(3, 5));
        CHECK.quote("Throws `IndexOutOfBoundsException` if there is no such impression");
        busy.index("impression 4", x -> x.impression(4, 0));
        busy.index("impression -1", x -> x.impression(-1, 4));
        busy.index("impression 4, after more were tried ahead", x -> {
            x.revenueAfter(0, 2, 60);
            return x.impression(4, 0);
        });
    }

    private static void revenue() {
        CHECK.quote("Returns the sum of the prices of all impressions.");
        AdMarketplace x = Check.open("day 1;tag t 999;campaign a 999 9999 9 1 any;");
        CHECK.due("none", 0, x.revenue());
        for (int i = 0; i < 160; i++) {
            x.request(i % 16, 0, 1);
            if (i % 8 == 7) {
                x.pass(1);
            }
        }
        CHECK.due("as much as there can be, of 20 days", 160 * 999, x.revenue());
        CHECK.due("spent today", 0, x.spent(0));
    }

    private static void reach() {
        CHECK.quote("Returns the number of different users to whom a campaign had impressions.");
        AdMarketplace x = Check.open(ONE);
        CHECK.due("nobody", 0, x.reach(0));
        for (int user = 0; user < 16; user++) {
            x.request(user, 0, 1);
            CHECK.due("the users up to " + user, user + 1, x.reach(0));
            x.request(user, 0, 1);
            CHECK.due("the same user again", user + 1, x.reach(0));
        }
        CHECK.due("the other campaign", 0, x.reach(1));
    }

    private static void frequency() {
        CHECK.quote("Returns the quotient; 0.0 if the reach is 0.");
        AdMarketplace x = Check.open(ONE);
        CHECK.due("no impression", 0.0, x.frequency(0));
        x.request(15, 0, 1);
        CHECK.due("one", 1.0, x.frequency(0));
        x.request(15, 0, 1);
        CHECK.due("two to one user", 2.0, x.frequency(0));
        x.request(0, 0, 1);
        CHECK.due("three to two users", 1.5, x.frequency(0));
        x.request(1, 0, 1);
        CHECK.due("four to three users", 4.0 / 3.0, x.frequency(0));
        CHECK.due("the other campaign", 0.0, x.frequency(1));
    }

    private static void recent() {
        CHECK.quote("Returns the number of impressions of a campaign to a user that count for its cap now.");
        AdMarketplace x = Check.open(ONE);
        CHECK.due("none", 0, x.recent(0, 0));
        for (int i = 1; i <= 9; i++) {
            x.request(15, 0, 1);
            CHECK.due("so many", i, x.recent(0, 15));
        }
        CHECK.due("then the other campaign is shown", 1, x.winner(15, 0, 0));
        x.request(15, 0, 1);
        CHECK.due("the cap", 9, x.recent(0, 15));
        CHECK.due("another user", 0, x.recent(0, 14));
        CHECK.due("the other campaign", 1, x.recent(1, 15));
        x.pass(4);
        CHECK.due("the last tick of the window", 9, x.recent(0, 15));
        x.pass(1);
        CHECK.due("the first tick behind the window", 0, x.recent(0, 15));
        for (int i = 0; i < 4; i++) {
            x.pass(200);
        }
        x.pass(193);
        CHECK.due("the last tick of the longest window", 1, x.recent(1, 15));
        x.pass(1);
        CHECK.due("the first tick behind the longest window", 0, x.recent(1, 15));
    }

    private static void topUser() {
        CHECK.quote("Returns the user with the most impressions, the smallest number of several; NONE if there are no impressions.");
        AdMarketplace x = Check.open(ONE);
        CHECK.due("no impressions", -1, x.topUser());
        x.pause(0);
        x.pause(1);
        x.request(3, 0, 1);
        CHECK.due("a request without an impression", -1, x.topUser());
        x.resume(0);
        x.request(15, 0, 1);
        CHECK.due("the greatest user alone", 15, x.topUser());
        x.request(14, 0, 1);
        CHECK.due("a smaller one with as many", 14, x.topUser());
        x.request(0, 0, 1);
        CHECK.due("the smallest one with as many", 0, x.topUser());
        x.request(15, 0, 1);
        CHECK.due("one more", 15, x.topUser());
        for (int i = 0; i < 5; i++) {
            x.undo();
        }
        CHECK.due("undone", -1, x.topUser());
    }

    private static void meanPrice() {
        CHECK.quote("Returns the sum of their prices divided by their number; 0.0 if there are none.");
        AdMarketplace x = Check.open(ONE);
        CHECK.due("none in slot 0", 0.0, x.meanPrice(0));
        CHECK.due("none in the last slot", 0.0, x.meanPrice(1));
        CHECK.argument("slot -1", () -> x.meanPrice(-1));
        CHECK.argument("slot 2", () -> x.meanPrice(2));
        x.request(0, 0, 1);
        CHECK.due("one in slot 0", 8.0, x.meanPrice(0));
        CHECK.due("none in the last slot still", 0.0, x.meanPrice(1));
        x.request(0, 0, 2);
        CHECK.due("one in the last slot", 1.0, x.meanPrice(1));
        x.setBid(1, 7);
        x.request(1, 0, 1);
        CHECK.due("8, 8 and 7", 23.0 / 3.0, x.meanPrice(0));
        AdMarketplace y = Check.open("tag t 0;campaign a 9 99 9 9 any;");
        y.request(0, 0, 1);
        CHECK.due("an impression for nothing", 0.0, y.meanPrice(0));
        CHECK.argument("slot 1 of one", () -> y.meanPrice(1));
    }

    private static void conversions() {
        CHECK.quote("`int conversions()`: Returns the number of conversions.");
        AdMarketplace x = new AdMarketplace();
        for (int i = 0; i < 40; i++) {
            CHECK.due("so many", i, x.conversions());
            x.convert(0, 1);
        }
        CHECK.due("as many as there can be", 40, x.conversions());
        CHECK.state("one more", () -> x.convert(0, 1));
        CHECK.due("still", 40, x.conversions());
        x.undo();
        CHECK.due("undone", 39, x.conversions());
    }

    private static void credit() {
        CHECK.quote("By the model even, for each conversion in order, value * (number of its impressions of the campaign) / (number of all of them), as a double, is added up.");
        AdMarketplace x = Check.open(ONE);
        CHECK.due("no conversion", 0.0, x.credit(0, 2));
        x.convert(0, 9999);
        CHECK.due("a conversion without impressions", 0.0, x.credit(0, 2));
        x.request(0, 0, 2);
        x.request(0, 0, 1);
        double sum = 0.0;
        double other = 0.0;
        for (int value : new int[] {1, 9999, 2, 7, 5000, 1}) {
            x.convert(0, value);
            sum += value * 2 / 3.0;
            other += value / 3.0;
        }
        CHECK.due("two of three", sum, x.credit(0, 2));
        CHECK.due("one of three", other, x.credit(1, 2));
        CHECK.argument("model -1", () -> x.credit(0, -1));
        CHECK.argument("model 3", () -> x.credit(0, 3));
        CHECK.index("campaign 2", () -> x.credit(2, 3));
    }

    private static void unattributed() {
        CHECK.quote("Returns the sum of the values of all conversions that are attributed to no impression.");
        AdMarketplace x = Check.open("attribute 1;" + ONE);
        CHECK.due("none", 0, x.unattributed());
        x.request(0, 0, 1);
        x.convert(0, 9999);
        CHECK.due("attributed", 0, x.unattributed());
        x.pass(1);
        x.convert(0, 9999);
        CHECK.due("attributed at the end of the window", 0, x.unattributed());
        x.pass(1);
        x.convert(0, 9999);
        CHECK.due("behind the window", 9999, x.unattributed());
        for (int i = 3; i < 40; i++) {
            x.convert(1, 9999);
        }
        CHECK.due("as many as there can be", 38 * 9999, x.unattributed());
    }

    private static void write() {
        CHECK.quote("if it is paused, then \" paused\"; then, if it had impressions, \", seen by \", its reach.");
        AdMarketplace x = Check.open("tag t 0;campaign a 9 99 9 9 any;");
        CHECK.due("neither", "a fast: 0/99 at 9", Check.output(x, x.write(0)));
        x.pause(0);
        CHECK.due("paused", "a fast: 0/99 at 9 paused", Check.output(x, x.write(0)));
        x.resume(0);
        x.request(0, 0, 1);
        CHECK.due("seen, for nothing", "a fast: 0/99 at 9, seen by 1", Check.output(x, x.write(0)));
        x.pause(0);
        CHECK.due("both", "a fast: 0/99 at 9 paused, seen by 1", Check.output(x, x.write(0)));
        x.undo();
        x.undo();
        CHECK.due("undone", "a fast: 0/99 at 9", Check.output(x, x.write(0)));
    }

    private static void writeLongest() {
        CHECK.quote("Writes a campaign to the output, in place of what the output has:");
        AdMarketplace x = Check.open("day 1;tag t 999;campaign abcdefghij 999 9999 9 1 any;pace abcdefghij strict;campaign b 1 1 1 1 any;");
        for (int user = 0; user < 10; user++) {
            x.request(user, 0, 1);
        }
        x.pause(0);
        String longest = "abcdefghij strict: 9990/9999 at 999 paused, seen by 10";
        CHECK.due("the longest", longest, Check.output(x, x.write(0)));
        CHECK.index("behind it", () -> x.written(longest.length()));
        CHECK.due("a shorter one in its place", "b fast: 0/1 at 1", Check.output(x, x.write(1)));
        CHECK.index("nothing of the longest is left", () -> x.written(16));
        CHECK.due("the same again", 16, x.write(1));
        CHECK.index("no campaign 2", () -> x.write(2));
        CHECK.index("no campaign -1", () -> x.write(-1));
        CHECK.due("the output stays", "b fast: 0/1 at 1", Check.output(x, 16));
        CHECK.index("and ends there", () -> x.written(16));
    }

    private static void written() {
        CHECK.quote("Throws `IndexOutOfBoundsException` if there is no such character, or nothing was written yet");
        AdMarketplace x = Check.open("campaign a 1 1 1 1 any;");
        for (int k : new int[] {-1, 0, 1, Integer.MIN_VALUE, Integer.MAX_VALUE}) {
            CHECK.index("nothing was written yet: " + k, () -> x.written(k));
        }
        CHECK.index("a write that is refused", () -> x.write(1));
        CHECK.index("nothing is written yet", () -> x.written(0));
        int length = x.write(0);
        CHECK.due("the first character", 'a', x.written(0));
        CHECK.due("the last character", '1', x.written(length - 1));
        for (int k : new int[] {-1, length, Integer.MIN_VALUE, Integer.MAX_VALUE}) {
            CHECK.index("no character " + k, () -> x.written(k));
        }
    }
}
