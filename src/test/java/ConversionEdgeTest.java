/** The sentences under CONVERSIONS that name a boundary case, in the order of the document. */
final class ConversionEdgeTest {
    private static final Check CHECK = new Check("ConversionEdgeTest");
    private static final String TWO = "slots 100 100;tag t 1;campaign a 9 900 9 9 any;campaign b 8 900 9 9 any;";

    public static void main(String[] args) {
        recordedBefore();
        sameUser();
        window();
        longestWindow();
        models();
        oneImpression();
        manyImpressions();
        noImpression();
        inPlaceOfAnUndoneOne();
        CHECK.end();
    }

    private static void credits(AdMarketplace x, int campaign, double last, double first, double even) {
        CHECK.due("credit of " + campaign + " by last", last, x.credit(campaign, 0));
        CHECK.due("credit of " + campaign + " by first", first, x.credit(campaign, 1));
        CHECK.due("credit of " + campaign + " by even", even, x.credit(campaign, 2));
    }

    private static void recordedBefore() {
        CHECK.quote("It is attributed to impressions that were recorded before it,");
        AdMarketplace x = Check.open(TWO);
        CHECK.due("no impression yet", -1, x.convert(0, 7));
        x.request(0, 0, 1);
        CHECK.due("an impression behind it, at the same tick", 7, x.unattributed());
        CHECK.due("an impression before it, at the same tick", 0, x.convert(0, 5));
        x.pause(0);
        x.request(0, 0, 1);
        credits(x, 0, 5.0, 5.0, 5.0);
        credits(x, 1, 0.0, 0.0, 0.0);
        CHECK.due("both are before it", 1, x.convert(0, 10));
        credits(x, 0, 5.0, 15.0, 10.0);
        credits(x, 1, 10.0, 0.0, 5.0);
    }

    private static void sameUser() {
        CHECK.quote("to the same user,");
        AdMarketplace x = Check.open(TWO);
        x.request(0, 0, 1);
        x.request(15, 0, 2);
        CHECK.due("user 0", 0, x.convert(0, 1));
        CHECK.due("user 15", 1, x.convert(15, 1));
        CHECK.due("user 1", -1, x.convert(1, 1));
        CHECK.due("user 14", -1, x.convert(14, 1));
    }

    private static void window() {
        CHECK.quote("at a tick not before the tick of the conversion minus the attribution window.");
        for (int ticks : new int[] {1, 2, 7, 199}) {
            AdMarketplace x = Check.open("attribute " + ticks + ";" + TWO);
            x.pass(3);
            x.request(0, 0, 1);
            x.pass(ticks);
            CHECK.due("the last tick of a window of " + ticks, 0, x.convert(0, 1));
            x.pass(1);
            CHECK.due("the first tick behind a window of " + ticks, -1, x.convert(0, 1));
        }
        AdMarketplace x = Check.open("attribute 5;" + TWO);
        x.request(0, 0, 1);
        x.pass(1);
        x.pause(0);
        x.request(0, 0, 1);
        x.pass(4);
        x.convert(0, 100);
        credits(x, 0, 0.0, 100.0, 50.0);
        x.pass(1);
        x.convert(0, 100);
        credits(x, 0, 0.0, 100.0, 50.0);
        credits(x, 1, 200.0, 100.0, 150.0);
    }

    private static void longestWindow() {
        AdMarketplace x = Check.open("attribute 999;" + TWO);
        x.request(0, 0, 1);
        for (int i = 0; i < 4; i++) {
            x.pass(200);
        }
        x.pass(199);
        CHECK.due("tick 999", 0, x.convert(0, 1));
        x.pass(1);
        CHECK.due("tick 1000", -1, x.convert(0, 1));
        AdMarketplace y = Check.open("attribute 999;" + TWO);
        y.request(0, 0, 1);
        CHECK.due("a window that begins before tick 0", 0, y.convert(0, 1));
    }

    private static void models() {
        CHECK.quote("There are three models: 0 last: the whole value goes to the latest of these impressions; 1 first: to the earliest one; 2 even: equal shares go to all of them.");
        AdMarketplace x = Check.open(TWO);
        x.request(0, 0, 2);
        CHECK.due("of one request, the last slot is the latest", 1, x.convert(0, 9));
        credits(x, 0, 0.0, 9.0, 4.5);
        credits(x, 1, 9.0, 0.0, 4.5);
        x.request(0, 0, 1);
        CHECK.due("of one tick, the last request is the latest", 0, x.convert(0, 9));
        credits(x, 0, 9.0, 18.0, 10.5);
        credits(x, 1, 9.0, 0.0, 7.5);
    }

    private static void oneImpression() {
        AdMarketplace x = Check.open(TWO);
        x.request(0, 0, 1);
        x.convert(0, 9999);
        credits(x, 0, 9999.0, 9999.0, 9999.0);
        credits(x, 1, 0.0, 0.0, 0.0);
    }

    /** A user has 72 impressions: nine of each of eight campaigns. */
    private static void manyImpressions() {
        StringBuilder text = new StringBuilder("slots 1 1 1 1;tag t 0;");
        for (int i = 0; i < 8; i++) {
            text.append("campaign ").append((char) ('a' + i)).append(" 9 9999 9 9 any;");
        }
        AdMarketplace x = Check.open(text.toString());
        for (int i = 0; i < 18; i++) {
            CHECK.due("request " + i, 4, x.request(0, 0, 4));
        }
        CHECK.due("all are capped", 0, x.request(0, 0, 4));
        CHECK.due("the latest one", 7, x.convert(0, 9999));
        for (int c = 0; c < 8; c++) {
            credits(x, c, c == 7 ? 9999.0 : 0.0, c == 0 ? 9999.0 : 0.0, 89991.0 / 72);
        }
    }

    private static void noImpression() {
        AdMarketplace x = Check.open(TWO);
        x.convert(0, 9999);
        credits(x, 0, 0.0, 0.0, 0.0);
        credits(x, 1, 0.0, 0.0, 0.0);
        CHECK.due("unattributed", 9999, x.unattributed());
    }

    /** Nothing of a conversion that was undone is left in the one that is recorded in its place. */
    private static void inPlaceOfAnUndoneOne() {
        CHECK.quote("Every successful edit can be undone.");
        AdMarketplace x = Check.open(TWO);
        x.request(0, 0, 2);
        x.request(1, 0, 1);
        x.convert(0, 100);
        x.undo();
        CHECK.due("another user, without impressions", -1, x.convert(2, 7));
        CHECK.due("unattributed", 7, x.unattributed());
        credits(x, 0, 0.0, 0.0, 0.0);
        credits(x, 1, 0.0, 0.0, 0.0);
        x.undo();
        x.convert(0, 100);
        x.undo();
        CHECK.due("another user, with one impression", 0, x.convert(1, 5));
        CHECK.due("nothing is unattributed", 0, x.unattributed());
        credits(x, 0, 5.0, 5.0, 5.0);
        credits(x, 1, 0.0, 0.0, 0.0);
        Check.load(x, TWO);
        CHECK.due("the same place in another text", -1, x.convert(1, 3));
        CHECK.due("unattributed in another text", 3, x.unattributed());
    }
}
