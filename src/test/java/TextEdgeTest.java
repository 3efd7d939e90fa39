import java.util.List;

/** The sentences under TEXT that name a boundary case, in the order of the document. */
final class TextEdgeTest {
    private static final Check CHECK = new Check("TextEdgeTest");
    private static final String ONE = "campaign a 1 1 1 1 any;";
    private static final String TWO = ONE + "campaign b 1 1 1 1 any;";

    public static void main(String[] args) {
        size();
        words();
        numbers();
        asFarAsPossible();
        blanks();
        everyByte();
        statements();
        ticks();
        factors();
        floors();
        campaignNumbers();
        names();
        targets();
        campaignNames();
        modes();
        tagsAndCampaignsAtMost();
        apartsAndFactorsAtMost();
        theLastOneCounts();
        withoutThem();
        firstToken();
        endsTooEarly();
        kinds();
        smallerKind();
        CHECK.end();
    }

    private static void legal(String text) {
        CHECK.legal(text, text.split("campaign +[a-z]+ *[0-9]", -1).length - 1);
    }

    /** The error is where the second part begins. */
    private static void bad(int kind, String before, String from) {
        CHECK.bad(before + from, kind, before.length());
    }

    private static void size() {
        CHECK.quote("The text has at most 600 bytes.");
        legal("");
        legal(" ".repeat(599));
        legal(" ".repeat(600));
        legal(" ".repeat(594) + "day 5;");
        legal("day 5;".repeat(100));
        bad(2, "day 5;".repeat(99) + "day 5 ", "");
        bad(2, " ".repeat(595) + "day 5", "");
        bad(2, " ".repeat(597) + "day", "");
        bad(2, " ".repeat(590), "abcdefghij");
        bad(1, " ".repeat(589), "abcdefghijk");
        bad(3, " ".repeat(592) + "day ", "9999");
        bad(1, " ".repeat(591) + "day ", "99999");
        bad(1, " ".repeat(599), "?");
        AdMarketplace x = new AdMarketplace();
        Check.feed(x, " ".repeat(600));
        CHECK.due("a 601st byte", -2, x.feed(0, 0, 0, 0, 0));
        CHECK.argument("a text of 601 bytes", () -> x.load(601));
        CHECK.due("a text of 600 bytes", 0, x.load(600));
    }

    private static void words() {
        CHECK.quote("Tokens are words (1 to 10 lower-case letters), numbers (1 to 4 digits) and the semicolon.");
        legal("tag a 1;tag z 1;");
        legal("tag abcdefghij 1;tag zzzzzzzzzz 1;tag abcdefghi 1;");
        bad(1, "tag ", "abcdefghijk 1;");
        bad(1, "", "abcdefghijk");
        bad(1, "", "attributeee 5;");
        bad(2, "", "attributee 5;");
        bad(1, "tag ", "`1;");
        bad(1, "tag ", "{1;");
        bad(1, "tag ", "A 1;");
        bad(1, "tag ", "Z 1;");
        bad(1, "tag ", "@ 1;");
        bad(1, "tag ", "[ 1;");
    }

    private static void numbers() {
        CHECK.quote("A longer run of letters, a longer run of digits and any other byte are illegal tokens.");
        legal("tag a 0;tag b 9;tag c 00;tag d 0000;tag e 0999;tag f 999;");
        bad(1, "tag a ", "00000;");
        bad(1, "tag a ", "00001;");
        bad(1, "tag a ", "12345;");
        bad(1, "tag a ", "1".repeat(300) + ";");
        bad(1, "tag ", "a".repeat(300) + " 1;");
        bad(1, "", "12345");
        bad(2, "", "1234");
        bad(1, "day ", "/;");
        bad(1, "day ", ":;");
        bad(1, "day ", "+5;");
        bad(1, "day 5", ",");
        bad(1, "day 5;", "\u007f");
    }

    private static void asFarAsPossible() {
        CHECK.quote("A token extends as far as possible.");
        legal("day5;tag a7;campaign b1 1 1 1a;pace b fast;");
        legal("slots12;");
        CHECK.due("one factor of two digits", 1, Check.open("slots 21;").slots());
        CHECK.due("two factors of one digit", 2, Check.open("slots 2 1;").slots());
        bad(2, "", "tagx 1;");
        bad(2, "", "daytag 5;");
        bad(3, "day ", "1111;");
        bad(1, "day ", "11111;");
        bad(2, "day 1", "x;");
        bad(2, "day 5;", ";");
        bad(1, "tag abcde ", "0123456789;");
    }

    private static void blanks() {
        CHECK.quote("Spaces (32) and line feeds (10) may stand before the first token, between tokens and behind the last token.");
        legal(" ");
        legal("\n");
        legal(" \n day \n 5 \n ; \n ");
        legal("\n\nday\n\n5\n\n;\n\n");
        legal("day5;day5;");
        bad(2, "", "d ay 5;");
        bad(2, "", "da\ny 5;");
        bad(2, "day 1 ", "2;");
        bad(2, "day 1\n", "2;");
        bad(1, "", "\tday 5;");
        bad(1, "day", "\r\n5;");
        bad(1, "day 5;", "\u000b");
    }

    /** Each of the 256 bytes alone, between two tokens, and behind a number. */
    private static void everyByte() {
        CHECK.quote("any other byte are illegal tokens.");
        for (char c = 0; c < 256; c++) {
            boolean letter = c >= 'a' && c <= 'z';
            boolean digit = c >= '0' && c <= '9';
            if (c == ' ' || c == '\n') {
                legal("" + c);
                legal("day" + c + "5;");
                legal("day 5" + c + ";");
            } else if (letter) {
                bad(2, "", "" + c);
                bad(2, "", "day" + c + "5;");
                bad(2, "day 5", c + ";");
            } else if (digit) {
                bad(2, "", "" + c);
                legal("day" + c + "5;");
                legal("day 5" + c + ";");
            } else if (c == ';') {
                bad(2, "", ";");
                bad(2, "day", ";5;");
                bad(2, "day 5;", ";");
            } else {
                bad(1, "", "" + c);
                bad(1, "day", c + "5;");
                bad(1, "day 5", c + ";");
            }
        }
    }

    private static void statements() {
        CHECK.quote("The text is a sequence of statements; each ends with a semicolon; { x } stands for any number of x, also none:");
        legal("");
        legal("slots 5;");
        legal("slots 5 4;");
        bad(2, "slots", ";");
        bad(2, "slots ", "any;");
        for (String statement : List.of("day 5", "attribute 5", "slots 5", "slots 5 5 5 5", "tag t 5",
                "campaign a 1 1 1 1 any")) {
            legal(statement + ";");
            bad(2, statement, "");
            bad(2, statement + ";", ";");
            bad(2, statement + " ", "day 5;");
        }
        for (String statement : List.of("pace a even", "apart a b")) {
            legal(TWO + statement + ";");
            bad(2, TWO + statement, "");
            bad(2, TWO + statement + ";", ";");
            bad(2, TWO + statement + " ", "day 5;");
        }
    }

    /** The least and the greatest number are legal, the one before and the one behind them are out of range. */
    private static void range(String before, int least, int greatest, String behind) {
        legal(before + least + behind);
        legal(before + greatest + behind);
        legal(before + "0".repeat(4 - String.valueOf(greatest).length()) + greatest + behind);
        if (least > 0) {
            bad(3, before, least - 1 + behind);
            bad(3, before, "0000" + behind);
        }
        // What has more than four digits is no number at all.
        bad(greatest == 9999 ? 1 : 3, before, greatest + 1 + behind);
        bad(greatest == 9999 ? 1 : 3, before, greatest + 1 + "");
    }

    private static void ticks() {
        CHECK.quote("TICKS is 1 to 999;");
        range("day ", 1, 999, ";");
        range("attribute ", 1, 999, ";");
        AdMarketplace x = Check.open("day 999;" + "campaign a 1 999 1 1 any;");
        CHECK.due("a day of 999 ticks: the plan", 1, x.plan(0));
        AdMarketplace y = Check.open("day 1;" + "campaign a 1 999 1 1 any;");
        CHECK.due("a day of one tick: the plan", 999, y.plan(0));
    }

    private static void factors() {
        CHECK.quote("FACTOR 1 to 100 (per cent), not greater than the FACTOR before it in the same statement;");
        range("slots ", 1, 100, ";");
        range("slots 100 ", 1, 100, ";");
        range("slots 50 ", 1, 50, ";");
        range("slots 100 50 ", 1, 50, ";");
        range("slots 100 99 98 ", 1, 98, ";");
        range("slots 1 ", 1, 1, ";");
        legal("slots 1;slots 100;slots 1 1;slots 2 2;");
        legal("slots 4 3 2 1;slots 100 100 100 100;");
        bad(3, "slots 3 2 ", "3;");
    }

    private static void floors() {
        CHECK.quote("FLOOR 0 to 999;");
        range("tag t ", 0, 999, ";");
        AdMarketplace x = Check.open("tag t 0;tag u 999;");
        CHECK.due("the least floor", 0, x.floor(0));
        CHECK.due("the greatest floor", 999, x.floor(1));
    }

    private static void campaignNumbers() {
        CHECK.quote("BID 1 to 999; BUDGET 1 to 9999; CAP 1 to 9; WINDOW 1 to 999.");
        range("campaign a ", 1, 999, " 1 1 1 any;");
        range("campaign a 1 ", 1, 9999, " 1 1 any;");
        range("campaign a 1 1 ", 1, 9, " 1 any;");
        range("campaign a 1 1 1 ", 1, 999, " any;");
        AdMarketplace x = Check.open("campaign a 1 1 1 1 any;campaign b 999 9999 9 999 any;");
        CHECK.due("the least bid", 1, x.bid(0));
        CHECK.due("the least budget", 1, x.budget(0));
        CHECK.due("the greatest bid", 999, x.bid(1));
        CHECK.due("the greatest budget", 9999, x.budget(1));
    }

    private static void names() {
        CHECK.quote("A NAME is a word other than any; tags have different NAMEs, and so have campaigns.");
        bad(2, "tag ", "any 5;");
        bad(2, "campaign ", "any 1 1 1 1 any;");
        legal("tag an 5;tag anyy 5;tag fast 5;tag tag 5;");
        legal("campaign an 1 1 1 1 any;campaign anyy 1 1 1 1 any;campaign campaign 1 1 1 1 any;");
        bad(4, "tag a 5;tag ", "a 5;");
        bad(4, "tag a 5;tag b 5;tag c 5;tag d 5;tag e 5;tag ", "a 5;");
        bad(4, "tag a 5;tag b 5;tag c 5;tag d 5;tag e 5;tag ", "e 5;");
        bad(4, TWO + "campaign ", "a 1 1 1 1 any;");
        bad(4, TWO + "campaign ", "b 1 1 1 1 any;");
        legal("tag a 5;tag aa 5;tag aaaaaaaaaa 5;tag aaaaaaaaa 5;");
        legal("tag a 5;campaign a 1 1 1 1 a;tag b 5;campaign b 1 1 1 1 a;");
    }

    private static void targets() {
        CHECK.quote("TARGET is the word any or the NAME of an earlier tag;");
        String six = "tag a 1;tag b 1;tag c 1;tag d 1;tag e 1;tag f 1;";
        legal("campaign x 1 1 1 1 any;");
        legal(six + "campaign x 1 1 1 1 a;campaign y 1 1 1 1 f;campaign z 1 1 1 1 any;");
        bad(4, "campaign x 1 1 1 1 ", "x;");
        bad(4, "campaign x 1 1 1 1 ", "t;tag t 1;");
        bad(4, six + "campaign x 1 1 1 1 ", "g;");
        bad(4, six + "campaign x 1 1 1 1 ", "aa;");
        bad(4, "tag ab 1;campaign x 1 1 1 1 ", "a;");
        bad(2, six + "campaign x 1 1 1 1 ", "1;");
        AdMarketplace x = Check.open(six + "campaign x 1 9 9 9 f;campaign y 1 9 9 9 any;");
        CHECK.due("the last tag: the tag before it is another one", 2, x.refusal(0, 0, 4));
        CHECK.due("the last tag", 0, x.refusal(0, 0, 5));
        CHECK.due("any: the first tag", 0, x.refusal(1, 0, 0));
        CHECK.due("any: the last tag", 0, x.refusal(1, 0, 5));
    }

    private static void campaignNames() {
        CHECK.quote("CAMPAIGN is the NAME of an earlier campaign, and the two of an apart statement are different.");
        bad(4, "pace ", "a fast;" + ONE);
        bad(4, ONE + "pace ", "b fast;campaign b 1 1 1 1 any;");
        bad(4, ONE + "pace ", "aa fast;");
        bad(4, "tag t 1;" + ONE + "pace ", "t fast;");
        bad(2, ONE + "pace ", "any fast;");
        legal(TWO + "pace b fast;apart b a;");
        bad(4, "apart ", "a b;");
        bad(4, ONE + "apart ", "b a;");
        bad(4, ONE + "apart a ", "b;campaign b 1 1 1 1 any;");
        bad(4, TWO + "apart a ", "a;");
        bad(4, TWO + "apart b ", "b;");
        bad(4, TWO + "apart a ", "c;");
        bad(2, TWO + "apart a ", "any;");
    }

    private static void modes() {
        CHECK.quote("MODE is one of the words fast, even, strict.");
        AdMarketplace x = Check.open(TWO + "campaign c 1 1 1 1 any;pace a fast;pace b even;pace c strict;");
        CHECK.due("fast", 0, x.mode(0));
        CHECK.due("even", 1, x.mode(1));
        CHECK.due("strict", 2, x.mode(2));
        for (String other : List.of("fas", "fastt", "any", "a", "stric", "stricts", "eve", "evens", "0", "2", ";")) {
            bad(2, ONE + "pace a ", other + ";");
        }
        bad(1, ONE + "pace a ", "Fast;");
    }

    private static String campaigns(int count) {
        StringBuilder s = new StringBuilder();
        for (int i = 0; i < count; i++) {
            s.append("campaign ").append((char) ('a' + i)).append(' ').append(i + 1).append(" 9 1 1 any;");
        }
        return s.toString();
    }

    private static String tags(int count) {
        StringBuilder s = new StringBuilder();
        for (int i = 0; i < count; i++) {
            s.append("tag ").append((char) ('a' + i)).append(' ').append(i).append(';');
        }
        return s.toString();
    }

    private static void tagsAndCampaignsAtMost() {
        CHECK.quote("There are at most 6 tags and at most 8 campaigns, which are numbered from 0 in the order of the text,");
        legal(tags(5));
        legal(tags(6));
        bad(5, tags(6), "tag g 1;");
        bad(5, tags(6) + campaigns(1), "tag");
        legal(campaigns(7));
        legal(campaigns(8));
        bad(5, campaigns(8), "campaign i 1 1 1 1 any;");
        bad(5, campaigns(8) + tags(6), "campaign");
        AdMarketplace x = Check.open("campaign z 7 1 1 1 any;" + tags(6) + campaigns(7));
        CHECK.due("campaigns", 8, x.campaigns());
        CHECK.due("tags", 6, x.tags());
        CHECK.due("the first campaign", 7, x.bid(0));
        CHECK.due("the second campaign", 1, x.bid(1));
        CHECK.due("the last campaign", 7, x.bid(7));
        CHECK.due("the first tag", 0, x.floor(0));
        CHECK.due("the last tag", 5, x.floor(5));
        CHECK.index("no campaign 8", () -> x.bid(8));
        CHECK.index("no tag 6", () -> x.floor(6));
    }

    private static void apartsAndFactorsAtMost() {
        CHECK.quote("at most 8 apart statements and at most 4 factors.");
        legal(TWO + "apart a b;".repeat(7));
        legal(TWO + "apart a b;".repeat(8));
        bad(5, TWO + "apart a b;".repeat(8), "apart a b;");
        bad(5, TWO + "apart b a;".repeat(8), "apart ?");
        legal("slots 9 9 9;");
        legal("slots 9 9 9 9;");
        bad(5, "slots 9 9 9 9 ", "9;");
        bad(5, "slots 9 9 9 9 ", "1;");
        bad(5, "slots 9 9 9 9 ", "9 ?");
        legal("slots 9 9 9 9;slots 9 9 9 9;");
        CHECK.due("four factors", 4, Check.open("slots 9 9 9 9;").slots());
        String full = "day 1;attribute 1;slots 4 3 2 1;" + tags(6) + campaigns(8) + "apart a b;apart c d;apart e f;apart g h;"
            + "apart a c;apart b h;apart d e;apart f g;pace a even;pace h strict;";
        AdMarketplace x = Check.open(full);
        CHECK.due("everything full: campaigns", 8, x.campaigns());
        CHECK.due("everything full: tags", 6, x.tags());
        CHECK.due("everything full: slots", 4, x.slots());
        CHECK.due("everything full: the last mode", 2, x.mode(7));
        CHECK.due("the last one ranked", 0, x.ranked(0, 0, 7));
        CHECK.due("h comes first", 7, x.winner(0, 0, 0));
        CHECK.due("then f, for g is apart from h", 5, x.winner(0, 0, 1));
        CHECK.due("then d, for e is apart from f", 3, x.winner(0, 0, 2));
        CHECK.due("then a, for c is apart from d and b from h", 0, x.winner(0, 0, 3));
    }

    private static void theLastOneCounts() {
        CHECK.quote("If a day, attribute or slots statement, or a pace statement for the same campaign, is repeated, the last one counts.");
        AdMarketplace x = Check.open("day 999;day 1;day 10;attribute 9;attribute 3;slots 9 9 9 9;slots 100 50;tag t 10;"
            + "campaign a 10 90 9 9 any;campaign b 10 90 9 9 any;pace a strict;pace b even;pace a fast;pace b strict;");
        CHECK.due("day: plan", 9, x.plan(0));
        CHECK.due("slots", 2, x.slots());
        CHECK.due("the factor of slot 0", 10, x.price(0, 0, 0));
        CHECK.due("pace of a", 0, x.mode(0));
        CHECK.due("pace of b", 2, x.mode(1));
        x.request(0, 0, 2);
        CHECK.due("the factor of slot 1", 5, x.impression(1, 4));
        x.pass(3);
        CHECK.due("attribute", 1, x.convert(0, 1));
        x.pass(1);
        CHECK.due("attribute, a tick later", -1, x.convert(0, 1));
        AdMarketplace y = Check.open("slots 50;slots 100 90 80 70;");
        CHECK.due("more factors than before", 4, y.slots());
    }

    private static void withoutThem() {
        CHECK.quote("Without them a day has 100 ticks, the attribution window has 50 ticks, there is one slot with the factor 100, and the mode is fast.");
        AdMarketplace x = Check.open("tag t 10;campaign a 10 200 9 9 any;");
        CHECK.due("slots", 1, x.slots());
        CHECK.due("the factor", 10, x.price(0, 0, 0));
        CHECK.due("mode", 0, x.mode(0));
        CHECK.due("plan at tick 0", 2, x.plan(0));
        x.request(0, 0, 1);
        x.pass(50);
        CHECK.due("the attribution window", 0, x.convert(0, 1));
        x.pass(1);
        CHECK.due("behind the attribution window", -1, x.convert(0, 1));
        x.pass(48);
        CHECK.due("tick 99: spent", 10, x.spent(0));
        CHECK.due("tick 99: plan", 200, x.plan(0));
        x.pass(1);
        CHECK.due("tick 100: spent", 0, x.spent(0));
        CHECK.due("tick 100: plan", 2, x.plan(0));
    }

    /** Every token of a legal text in its turn is another one: the error is at that token. */
    private static void firstToken() {
        CHECK.quote("The error of a text is its first token, from left to right, that cannot be continued to a legal text;");
        String text = "day 5 ; attribute 5 ; slots 5 ; tag t 5 ; campaign a 1 1 1 1 any ; campaign b 1 1 1 1 t ; "
            + "pace a even ; apart a b ;";
        String[] tokens = text.split(" ");
        StringBuilder before = new StringBuilder();
        for (int i = 0; i < tokens.length; i++) {
            StringBuilder behind = new StringBuilder();
            for (int k = i + 1; k < tokens.length; k++) {
                behind.append(' ').append(tokens[k]);
            }
            bad(1, before.toString(), "?" + behind);
            bad(1, before.toString(), "abcdefghijk" + behind);
            bad(1, before.toString(), "00001" + behind);
            if (!tokens[i].equals(";")) {
                bad(2, before.toString(), ";" + behind);
            } else {
                bad(2, before.toString(), "day" + behind);
            }
            before.append(tokens[i]).append(' ');
        }
        legal(text);
        bad(3, "day ", "0;tag any ?;");
        bad(2, "tag ", "any 1000;tag a ?;");
        bad(4, "tag a 1;tag ", "a 1000 ?;");
        bad(5, tags(6), "tag any 1000 ?;");
    }

    /** A legal text that ends behind any of its tokens but a statement's last. */
    private static void endsTooEarly() {
        CHECK.quote("if the text ends too early, the error is at the end and its position is the length of the text.");
        String text = "day 5 ; attribute 5 ; slots 5 4 3 2 ; tag t 5 ; campaign a 1 1 1 1 any ; campaign b 1 1 1 1 t ; "
            + "pace a even ; apart a b ;";
        StringBuilder before = new StringBuilder();
        for (String token : text.split(" ")) {
            before.append(token);
            if (token.equals(";")) {
                legal(before.toString());
                legal(before + " \n");
            } else {
                bad(2, before.toString(), "");
                bad(2, before + " ", "");
                bad(2, before + "\n \n", "");
            }
            before.append(' ');
        }
        AdMarketplace x = new AdMarketplace();
        Check.feed(x, "day 55;tag t 5;");
        CHECK.due("bytes behind the text do not count", -3, x.load(5));
        CHECK.due("their kind", 2, x.errorKind());
        CHECK.due("their position", 5, x.errorPosition());
        Check.feed(x, "day 1000;");
        CHECK.due("a number that is cut", -3, x.load(7));
        CHECK.due("a number that is cut: kind", 2, x.errorKind());
        CHECK.due("a number that is cut: position", 7, x.errorPosition());
        Check.feed(x, "day 5;tag");
        CHECK.due("a word that is cut", -3, x.load(8));
        CHECK.due("a word that is cut: position", 6, x.errorPosition());
        Check.feed(x, "day 5;?");
        CHECK.due("what is illegal lies behind the text", 0, x.load(6));
    }

    private static void kinds() {
        CHECK.quote("The kinds of errors are: 1 illegal token; 2 another token was expected; 3 a number is out of range; "
            + "4 a NAME that an earlier tag or campaign (of the same sort) has, a TARGET or CAMPAIGN that does not exist, "
            + "a second CAMPAIGN that is the first one; 5 the word tag, campaign or apart of a statement too many, or a fifth FACTOR.");
        bad(1, "day ", "!;");
        bad(2, "day ", "day;");
        bad(3, "day ", "0;");
        bad(4, "tag a 1;tag ", "a 1;");
        bad(4, ONE + "campaign ", "a 1 1 1 1 any;");
        legal("tag a 1;" + ONE);
        bad(4, "campaign a 1 1 1 1 ", "b;");
        bad(4, ONE + "pace ", "b fast;");
        bad(4, ONE + "apart ", "b a;");
        bad(4, ONE + "apart a ", "b;");
        bad(4, ONE + "apart a ", "a;");
        bad(5, tags(6), "tag g 1;");
        bad(5, campaigns(8), "campaign i 1 1 1 1 any;");
        bad(5, TWO + "apart a b;".repeat(8), "apart a b;");
        bad(5, "slots 9 8 7 6 ", "5;");
    }

    private static void smallerKind() {
        CHECK.quote("If two kinds apply to one token, the smaller kind is reported.");
        bad(1, "slots 9 9 9 9 ", "00009;");
        bad(1, "day ", "00000;");
        bad(2, "slots 9 9 9 9 ", "any;");
        bad(3, "slots 9 9 9 9 ", "0;");
        bad(3, "slots 9 9 9 9 ", "10;");
        bad(3, "slots 9 9 9 9 ", "101;");
        bad(5, "slots 9 9 9 9 ", "9;");
        bad(1, ONE + "pace ", "abcdefghijk fast;");
        bad(2, ONE + "pace ", "any fast;");
        bad(2, "pace ", "any fast;");
        bad(2, ONE + "apart a ", "any;");
        bad(4, ONE + "apart ", "b b;");
    }
}
