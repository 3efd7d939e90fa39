/** Promises 1 to 5 and the terms under TEXT. */
final class TextTest {
    private static final Check CHECK = new Check("TextTest");
    private static final String CAMPAIGN = "campaign a 1 1 1 1 any;";
    private static final String TWO = CAMPAIGN + "campaign b 1 1 1 1 any;";

    public static void main(String[] args) {
        newObject();
        feed();
        load();
        loadAgain();
        badLoadKeepsEverything();
        legalTexts();
        tokens();
        expected();
        ranges();
        names();
        tooMany();
        smallerKindFirst();
        endsTooEarly();
        lastStatementCounts();
        CHECK.end();
    }

    /** Promise 1. */
    private static void newObject() {
        AdMarketplace x = new AdMarketplace();
        CHECK.due("new: campaigns", 0, x.campaigns());
        CHECK.due("new: tags", 0, x.tags());
        CHECK.due("new: slots", 1, x.slots());
        CHECK.due("new: tick", 0, x.tick());
        CHECK.due("new: impressions", 0, x.impressions());
        CHECK.due("new: conversions", 0, x.conversions());
        CHECK.due("new: undo", -1, x.undo());
        CHECK.due("new: errorKind", 0, x.errorKind());
        CHECK.due("new: errorPosition", -1, x.errorPosition());
        CHECK.argument("new: the buffer is empty", () -> x.load(1));
        CHECK.index("new: nothing is written", () -> x.written(0));
    }

    /** Promise 2. */
    private static void feed() {
        AdMarketplace x = new AdMarketplace();
        int word = 'd' << 24 | 'a' << 16 | 'y' << 8 | '7';
        CHECK.due("feed", 20, x.feed(word, ';' << 24 | 'd' << 16 | 'a' << 8 | 'y', 0x31303b20, 0x20202020, 0x2020203b));
        CHECK.due("the four bytes of each, most significant first: load", -3, x.load(20));
        CHECK.due("the last byte is the semicolon: kind", 2, x.errorKind());
        CHECK.due("the last byte is the semicolon: position", 19, x.errorPosition());
        for (int i = 1; i <= 30; i++) {
            CHECK.due("feed no. " + i, 20 * i, x.feed(0x20202020, 0x20202020, 0x20202020, 0x20202020, 0x20202020));
        }
        CHECK.due("feed beyond 600", -2, x.feed(-1, -1, -1, -1, -1));
        CHECK.due("feed beyond 600 again", -2, x.feed(-1, -1, -1, -1, -1));
        CHECK.argument("nothing was appended: load(601)", () -> x.load(601));
        CHECK.due("load(600)", 0, x.load(600));
        CHECK.due("feed an emptied buffer", 20, x.feed(0x80ff0001, 0, 0, 0, 0));
        CHECK.due("a byte over 127", -3, x.load(20));
        CHECK.due("a byte over 127: kind", 1, x.errorKind());
        CHECK.due("a byte over 127: position", 0, x.errorPosition());
    }

    /** Promise 3, with 4 and 5. */
    private static void load() {
        AdMarketplace x = new AdMarketplace();
        Check.feed(x, "tag t 0;" + CAMPAIGN);
        CHECK.argument("load(-1)", () -> x.load(-1));
        CHECK.argument("load(41)", () -> x.load(41));
        CHECK.argument("load of the smallest number", () -> x.load(Integer.MIN_VALUE));
        CHECK.argument("load of the greatest number", () -> x.load(Integer.MAX_VALUE));
        CHECK.due("the buffer keeps its bytes", 1, x.load(31));
        CHECK.due("tags", 1, x.tags());
        CHECK.argument("load empties the buffer", () -> x.load(1));
        CHECK.due("pass", 7, x.pass(7));
        CHECK.due("request", 1, x.request(0, 0, 1));
        x.convert(0, 5);
        x.pause(0);
        Check.feed(x, "tag t 3;" + CAMPAIGN);
        CHECK.due("load only the first bytes", 0, x.load(8));
        CHECK.due("campaigns", 0, x.campaigns());
        CHECK.due("time begins anew", 0, x.tick());
        CHECK.due("impressions begin anew", 0, x.impressions());
        CHECK.due("conversions begin anew", 0, x.conversions());
        CHECK.due("edits are forgotten", -1, x.undo());
        CHECK.argument("the rest of the bytes is gone", () -> x.load(1));
        CHECK.due("load(0)", 0, x.load(0));
        CHECK.due("an empty text has no tags", 0, x.tags());
        Check.load(x, "tag t 3;" + CAMPAIGN);
        CHECK.due("a loaded campaign is not paused", 0, x.refusal(0, 0, 0) == 1 ? 1 : 0);
        CHECK.due("a loaded campaign has spent nothing", 0, x.spent(0));
        CHECK.due("a loaded campaign has the multiplier 100", 100, x.multiplier(0));
    }

    /** Nothing of an earlier text is left, whether it was loaded once, twice or three times before. */
    private static void loadAgain() {
        String rich = "day 7;attribute 2;slots 50 50;tag t 5;" + TWO + "pace a strict;pace b even;" + "apart a b;".repeat(8);
        String plain = "slots 50 50;tag u 0;campaign x 9 900 9 9 any;campaign y 8 900 9 9 any;";
        AdMarketplace x = new AdMarketplace();
        for (int i = 0; i < 4; i++) {
            CHECK.due("a rich text", 2, Check.load(x, rich));
            CHECK.due("a rich text: mode", 2, x.mode(0));
            CHECK.due("a rich text: plan", 0, x.plan(0));
            CHECK.due("a plain text", 2, Check.load(x, plain));
            CHECK.due("a plain text: mode", 0, x.mode(0));
            CHECK.due("a plain text: mode", 0, x.mode(1));
            CHECK.due("a plain text: plan of a day of 100 ticks", 9, x.plan(0));
            CHECK.due("a plain text: nobody is kept apart", 2, x.request(0, 0, 2));
            x.pass(50);
            CHECK.due("a plain text: the attribution window is 50 again", 1, x.convert(0, 5));
            x.setMode(1, 2);
            x.pause(1);
            if (i % 2 == 0) {
                CHECK.due("an empty text", 0, x.load(0));
                CHECK.due("an empty text: slots", 1, x.slots());
            }
        }
    }

    private static void badLoadKeepsEverything() {
        AdMarketplace x = Check.open("slots 90 80;tag t 0;campaign a 9 90 9 9 any;campaign b 5 90 9 9 any;");
        x.write(0);
        x.request(3, 0, 2);
        x.convert(3, 5);
        x.pass(2);
        CHECK.due("a bad text", -3, Check.load(x, "tag x 5;tag y 6;campaign z 1 1 1 1 any;day 3;oops"));
        CHECK.due("bad: kind", 2, x.errorKind());
        CHECK.due("bad: position", 45, x.errorPosition());
        CHECK.argument("bad: the buffer is emptied", () -> x.load(1));
        CHECK.due("bad: kind stays when load throws", 2, x.errorKind());
        CHECK.due("bad: position stays when load throws", 45, x.errorPosition());
        CHECK.due("bad: campaigns", 2, x.campaigns());
        CHECK.due("bad: tags", 1, x.tags());
        CHECK.due("bad: slots", 2, x.slots());
        CHECK.due("bad: tick", 2, x.tick());
        CHECK.due("bad: bid", 9, x.bid(0));
        CHECK.due("bad: impressions", 2, x.impressions());
        CHECK.due("bad: conversions", 1, x.conversions());
        CHECK.due("bad: output", "a fast: 0/90 at 9", Check.output(x, 17));
        CHECK.due("bad: edits are remembered", 2, x.undo());
        CHECK.due("a good text after it", 0, Check.load(x, "day 5;"));
        CHECK.due("good: kind", 0, x.errorKind());
        CHECK.due("good: position", -1, x.errorPosition());
        CHECK.due("good: the output stays", 'a', x.written(0));
    }

    private static void legal(String text, int campaigns) {
        CHECK.legal(text, campaigns);
    }

    private static void bad(String text, int kind, int position) {
        CHECK.bad(text, kind, position);
    }

    private static void legalTexts() {
        legal("", 0);
        legal(" \n ", 0);
        legal("\n day\n5 \n; ", 0);
        legal("day5;tag a7;campaign b1 1 1 1a;", 1);
        legal("day 0005;day 1;day 999;attribute 1;attribute 999;", 0);
        legal("slots 100;slots 1;slots 100 100 1 1;slots 4 3 2 1;", 0);
        legal("tag a 0;tag b 999;tag tag 5;tag slots 0;tag abcdefghij 1;tag strict 1;", 0);
        legal("campaign a 999 9999 9 999 any;campaign b 1 1 1 1 any;", 2);
        legal("tag a 1;campaign a 1 1 1 1 a;campaign fast 1 1 1 1 any;pace fast fast;pace a strict;pace a even;", 2);
        legal(TWO + "apart a b;apart b a;apart a b;apart a b;apart a b;apart a b;apart a b;apart a b;", 2);
        String eight = "";
        for (char c = 'a'; c <= 'h'; c++) {
            eight += "campaign " + c + " 1 1 1 1 any;";
        }
        legal(eight, 8);
        String full = "day 5;" + " ".repeat(594);
        legal(full, 0);
    }

    private static void tokens() {
        bad("Day 5;", 1, 0);
        bad("daY 5;", 2, 0);
        bad("day\t5;", 1, 3);
        bad("day\r5;", 1, 3);
        bad("day -5;", 1, 4);
        bad("day 5.;", 1, 5);
        bad("day 00005;", 1, 4);
        bad("day 99999;", 1, 4);
        bad("abcdefghijk 5;", 1, 0);
        bad("abcdefghij 5;", 2, 0);
        bad("tag abcdefghijk 5;", 1, 4);
        bad("day 5;\u0000", 1, 6);
        bad("day 5;" + (char) 160, 1, 6);
        bad("day 5; `", 1, 7);
        bad("day 5; {", 1, 7);
        bad("day 5; /", 1, 7);
        bad("day 5; :", 1, 7);
        bad(CAMPAIGN + "pace a *;", 1, 30);
        bad("slots 5 *;", 1, 8);
        bad("slots 5 5 5 5 *;", 1, 14);
        bad("day 5 ?", 1, 6);
        bad("tag ?", 1, 4);
        bad(TWO + "apart ? b;", 1, 52);
        bad("campaign a 1 1 1 1 ?", 1, 19);
    }

    private static void expected() {
        bad(";", 2, 0);
        bad("5 day;", 2, 0);
        bad("days 5;", 2, 0);
        bad("da 5;", 2, 0);
        bad("day 5;;", 2, 6);
        bad("day ;", 2, 4);
        bad("day x;", 2, 4);
        bad("day 5 6;", 2, 6);
        bad("day 5 day 6;", 2, 6);
        bad("attribute any;", 2, 10);
        bad("attribute 1 x;", 2, 12);
        bad("slots;", 2, 5);
        bad("slots x;", 2, 6);
        bad("slots 5 x;", 2, 8);
        bad("slots 5 5 5 5 x;", 2, 14);
        bad("tag 5 5;", 2, 4);
        bad("tag ; 5;", 2, 4);
        bad("tag any 5;", 2, 4);
        bad("tag a b;", 2, 6);
        bad("tag a ;", 2, 6);
        bad("tag a 5 5;", 2, 8);
        bad("campaign 1 1 1 1 1 any;", 2, 9);
        bad("campaign any 1 1 1 1 any;", 2, 9);
        bad("campaign a any 1 1 1 any;", 2, 11);
        bad("campaign a 1 x 1 1 any;", 2, 13);
        bad("campaign a 1 1 ; 1 any;", 2, 15);
        bad("campaign a 1 1 1 x any;", 2, 17);
        bad("campaign a 1 1 1 1 1;", 2, 19);
        bad("campaign a 1 1 1 1 ;", 2, 19);
        bad("campaign a 1 1 1 1 any 1;", 2, 23);
        bad(CAMPAIGN + "pace 5 fast;", 2, 28);
        bad(CAMPAIGN + "pace any fast;", 2, 28);
        bad(CAMPAIGN + "pace a any;", 2, 30);
        bad(CAMPAIGN + "pace a fas;", 2, 30);
        bad(CAMPAIGN + "pace a fastt;", 2, 30);
        bad(CAMPAIGN + "pace a 1;", 2, 30);
        bad(CAMPAIGN + "pace a fast fast;", 2, 35);
        bad(TWO + "apart any b;", 2, 52);
        bad(TWO + "apart a any;", 2, 54);
        bad(TWO + "apart a ;", 2, 54);
        bad(TWO + "apart a b b;", 2, 56);
    }

    private static void ranges() {
        bad("day 0;", 3, 4);
        bad("day 1000;", 3, 4);
        bad("attribute 0;", 3, 10);
        bad("attribute 1000;", 3, 10);
        bad("slots 0;", 3, 6);
        bad("slots 101;", 3, 6);
        bad("slots 50 51;", 3, 9);
        bad("slots 50 40 41;", 3, 12);
        bad("slots 50 0;", 3, 9);
        bad("slots 5 5 5 6;", 3, 12);
        bad("tag a 1000;", 3, 6);
        bad("campaign a 0 1 1 1 any;", 3, 11);
        bad("campaign a 1000 1 1 1 any;", 3, 11);
        bad("campaign a 1 0 1 1 any;", 3, 13);
        bad("campaign a 1 1 0 1 any;", 3, 15);
        bad("campaign a 1 1 10 1 any;", 3, 15);
        bad("campaign a 1 1 1 0 any;", 3, 17);
        bad("campaign a 1 1 1 1000 any;", 3, 17);
        bad("day 0", 3, 4);
    }

    private static void names() {
        bad("tag a 1;tag b 1;tag a 1;", 4, 20);
        bad(TWO + "campaign b 1 1 1 1 any;", 4, 55);
        bad("tag b 1;campaign a 1 1 1 1 c;", 4, 27);
        bad("campaign a 1 1 1 1 a;", 4, 19);
        bad("campaign a 1 1 1 1 t;tag t 1;", 4, 19);
        bad("pace a fast;" + CAMPAIGN, 4, 5);
        bad("tag t 1;" + CAMPAIGN + "pace t fast;", 4, 36);
        bad("apart a b;", 4, 6);
        bad(CAMPAIGN + "apart a b;", 4, 31);
        bad(TWO + "apart a a;", 4, 54);
        bad(TWO + "apart c a;", 4, 52);
        bad(TWO + "apart aa b;", 4, 52);
        legal("tag a 1;campaign a 1 1 1 1 a;", 1);
    }

    private static void tooMany() {
        String tags = "tag a 1;tag b 1;tag c 1;tag d 1;tag e 1;tag f 1;";
        legal(tags, 0);
        bad(tags + "tag g 1;", 5, 48);
        bad(tags + "tag", 5, 48);
        bad(tags + "tag a ?", 5, 48);
        String eight = "";
        for (char c = 'a'; c <= 'h'; c++) {
            eight += "campaign " + c + " 1 1 1 1 any;";
        }
        bad(eight + " campaign i 1 1 1 1 any;", 5, 185);
        String aparts = TWO + "apart a b;".repeat(8);
        bad(aparts + "apart a b;", 5, 126);
        bad("slots 5 5 5 5 5;", 5, 14);
        bad("slots 5 5 5 5 1;", 5, 14);
        legal("slots 5 5 5 5;slots 5 5 5 5;", 0);
    }

    private static void smallerKindFirst() {
        bad("slots 5 5 5 5 6;", 3, 14);
        bad("slots 5 5 5 5 0;", 3, 14);
        bad("slots 5 5 5 5 101;", 3, 14);
        bad("slots 5 5 5 5 00005;", 1, 14);
        bad(CAMPAIGN + "apart any any;", 2, 29);
    }

    private static void endsTooEarly() {
        bad("day", 2, 3);
        bad("day 5", 2, 5);
        bad("day 5 \n ", 2, 8);
        bad("slots", 2, 5);
        bad("slots 5", 2, 7);
        bad("slots 5 5 5 5", 2, 13);
        bad("tag", 2, 3);
        bad("tag a", 2, 5);
        bad("campaign a 1 1 1 1", 2, 18);
        bad("campaign a 1 1 1 1 any", 2, 22);
        bad(CAMPAIGN + "pace a", 2, 29);
        bad(TWO + "apart a ", 2, 54);
        String full = " ".repeat(597) + "day";
        bad(full, 2, 600);
    }

    private static void lastStatementCounts() {
        AdMarketplace x = Check.open("day 10;day 20;attribute 3;attribute 7;slots 90 80 70;slots 60;"
            + "tag t 0;campaign a 9 100 9 9 any;pace a strict;pace a even;");
        CHECK.due("the last day counts: plan", 5, x.plan(0));
        CHECK.due("the last slots count", 1, x.slots());
        CHECK.due("the last pace counts", 1, x.mode(0));
        x.request(0, 0, 1);
        x.pass(7);
        CHECK.due("the last attribute counts", 0, x.convert(0, 5));
        x.pass(1);
        CHECK.due("the last attribute counts, one tick later", -1, x.convert(0, 5));
    }
}
