/** The sentences of promises 1 to 26 that name a boundary case, in the order of the document. */
final class QueryEdgeTest {
    private static final Check CHECK = new Check("QueryEdgeTest");
    private static final int SPACES = 0x20202020;

    public static void main(String[] args) {
        newObject();
        feedOrder();
        feedFull();
        loadEmpties();
        loadBeginsAnew();
        loadOutOfRange();
        badText();
        errorKind();
        errorPosition();
        counts();
        modes();
        refusals();
        ranked();
        winnersAndPrices();
        leastBid();
        bestFloor();
        revenueAfter();
        usersInTurn();
        limitsDoNotApply();
        multiplierAfter();
        bestMode();
        nothingChanges();
        CHECK.end();
    }

    private static void newObject() {
        CHECK.quote("Creates an exchange as an empty text defines it, and an empty buffer.");
        Twins empty = new Twins(CHECK, x -> { });
        empty.answers("an empty text loaded", 0, x -> x.load(0));
        empty.answers("a text of spaces loaded", 0, x -> Check.load(x, " ".repeat(20)));
        empty.answers("another text, then an empty one", 0, x -> {
            Check.load(x, "day 3;slots 9 9;tag t 5;campaign a 1 1 1 1 any;");
            return x.load(0);
        });
        empty.argument("no byte is in the buffer", x -> x.load(1));
        empty.index("no campaign", x -> x.bid(0));
        empty.index("no tag", x -> x.floor(0));
        empty.index("no impression", x -> x.impression(0, 0));
        empty.index("no character", x -> x.written(0));
        empty.answers("no edit", -1, x -> x.undo());
        empty.answers("one slot", 0.0, x -> x.meanPrice(0));
        empty.argument("no second slot", x -> x.meanPrice(1));
        empty.changes("time passes", 200, x -> x.pass(200));
        empty.changes("a conversion is recorded", -1, x -> x.convert(15, 9999));
    }

    /** An illegal byte among spaces at each of the twenty places in turn. */
    private static void feedOrder() {
        CHECK.quote("Appends 20 bytes to the buffer: the four bytes of a, then of b, c, d and e, the most significant byte of each first.");
        for (int odd : new int[] {0, 1, 127, 128, 255}) {
            for (int place = 0; place < 20; place++) {
                AdMarketplace x = new AdMarketplace();
                int[] words = {SPACES, SPACES, SPACES, SPACES, SPACES};
                int shift = 24 - 8 * (place % 4);
                words[place / 4] = SPACES & ~(255 << shift) | odd << shift;
                x.feed(SPACES, SPACES, SPACES, SPACES, SPACES);
                CHECK.due("the byte " + odd + " at place " + place, 40, x.feed(words[0], words[1], words[2], words[3], words[4]));
                CHECK.due("load", -3, x.load(40));
                CHECK.due("kind", 1, x.errorKind());
                CHECK.due("position", 20 + place, x.errorPosition());
            }
        }
    }

    private static void feedFull() {
        CHECK.quote("Returns the number of bytes in the buffer; FULL if there would be more than 600 (nothing is appended).");
        AdMarketplace x = new AdMarketplace();
        for (int bytes = 20; bytes <= 600; bytes += 20) {
            CHECK.due("feed up to " + bytes, bytes, x.feed(SPACES, SPACES, SPACES, SPACES, SPACES));
        }
        CHECK.due("feed beyond 600", AdMarketplace.FULL, x.feed(0, 0, 0, 0, 0));
        CHECK.due("all 600 bytes are as before", 0, x.load(600));
        CHECK.due("an emptied buffer", 20, x.feed(0, 0, 0, 0, 0));
        Twins full = new Twins(CHECK, y -> {
            Busy.grow(y);
            y.load(0);
            Check.feed(y, "day 5;tag t 6;".repeat(43).substring(0, 600));
        });
        full.answers("feed a full buffer", -2, y -> y.feed(1, 2, 3, 4, 5));
        Twins nearly = new Twins(CHECK, y -> Check.feed(y, " ".repeat(580)));
        nearly.changes("feed a buffer with 580 bytes", 600, y -> y.feed(1, 2, 3, 4, 5));
    }

    private static void loadEmpties() {
        CHECK.quote("Reads a text from the first bytes of the buffer and empties the buffer, also if the text is not legal.");
        AdMarketplace x = new AdMarketplace();
        Check.feed(x, "tag t 5;oops");
        CHECK.due("the first bytes are legal", 0, x.load(8));
        CHECK.due("tags", 1, x.tags());
        CHECK.due("the buffer is empty", 20, x.feed('o' << 24, SPACES, SPACES, SPACES, SPACES));
        CHECK.due("a text that is not legal", -3, x.load(20));
        CHECK.due("the buffer is empty again", 20, x.feed(SPACES, SPACES, SPACES, SPACES, SPACES));
        CHECK.due("a legal text", 0, x.load(20));
        Check.feed(x, "oops");
        CHECK.due("none of the bytes", 0, x.load(0));
        CHECK.argument("then none is left", () -> x.load(1));
        Check.feed(x, " ".repeat(600));
        CHECK.due("all of 600 bytes", 0, x.load(600));
        CHECK.due("600 bytes are gone", 20, x.feed(SPACES, SPACES, SPACES, SPACES, SPACES));
    }

    private static void loadBeginsAnew() {
        CHECK.quote("If it is legal, time, impressions and conversions begin anew.");
        String text = "day 9;attribute 9;slots 9 9;tag t 1;campaign a 9 90 1 9 any;campaign b 8 90 9 9 any;pace a even;";
        Twins fresh = new Twins(CHECK, x -> Check.load(x, text));
        fresh.answers("the same text again, behind edits of all kinds", 2, x -> {
            x.pass(5);
            x.request(0, 0, 2);
            x.convert(0, 7);
            x.convert(1, 7);
            x.pass(1);
            x.pause(0);
            x.setBid(1, 77);
            x.setBudget(1, 88);
            x.setMode(1, 2);
            x.setFloor(0, 66);
            return Check.load(x, text);
        });
    }

    private static void loadOutOfRange() {
        CHECK.quote("Throws `IllegalArgumentException` if length is out of range (the buffer keeps its bytes)");
        Twins busy = new Twins(CHECK, Busy::grow);
        for (int length : new int[] {-1, Busy.HELD + 1, 600, 601, Integer.MIN_VALUE, Integer.MAX_VALUE}) {
            busy.argument("load(" + length + ")", x -> x.load(length));
        }
        busy.changes("load of all bytes", -3, x -> x.load(Busy.HELD));
        busy.changes("load of no byte", 0, x -> x.load(0));
        AdMarketplace x = new AdMarketplace();
        CHECK.argument("load(1) of an empty buffer", () -> x.load(1));
        CHECK.due("load(0) of an empty buffer", 0, x.load(0));
    }

    /** A text that defines much before its error leaves behind what a text with that error alone leaves behind. */
    private static void badText() {
        CHECK.quote("BAD_TEXT if the text is not legal (everything but the buffer stays).");
        String rich = "day 1;attribute 1;slots 4 3 2 1;tag x 1;tag y 2;tag z 3;campaign p 1 1 1 1 any;campaign q 2 2 2 2 x;"
            + "campaign r 3 3 3 3 any;campaign s 4 4 4 4 any;pace p strict;pace q even;apart p q;apart q r;";
        String[] errors = {"?", ";", "day 0;", "pace none fast;", "slots 9 9 9 9 9;"};
        for (String error : errors) {
            Twins bad = new Twins(CHECK, x -> {
                Busy.grow(x);
                x.load(Busy.HELD);
                Check.load(x, " ".repeat(rich.length()) + error);
            });
            bad.answers("a rich text that ends with " + error, AdMarketplace.BAD_TEXT, x -> Check.load(x, rich + error));
            bad.answers("the same twice", AdMarketplace.BAD_TEXT, x -> {
                Check.load(x, rich + error);
                return Check.load(x, rich + error);
            });
        }
        AdMarketplace y = Busy.grown();
        y.load(Busy.HELD);
        CHECK.due("without an error the text is loaded", 4, Check.load(y, rich));
    }

    private static void errorKind() {
        CHECK.quote("Returns the kind of the error of the latest load() that did not throw an exception; 0 if it had none or there was no such load().");
        AdMarketplace x = new AdMarketplace();
        CHECK.due("no load", 0, x.errorKind());
        CHECK.argument("a load that throws", () -> x.load(1));
        CHECK.due("only a load that threw", 0, x.errorKind());
        String[] texts = {"?", "x", "day 0;", "tag a 1;tag a 1;", "slots 1 1 1 1 1;"};
        for (int i = 0; i < texts.length; i++) {
            Check.load(x, texts[i]);
            CHECK.due("kind of " + texts[i], i + 1, x.errorKind());
            CHECK.argument("a load that throws", () -> x.load(-1));
            CHECK.due("kind of " + texts[i] + " still", i + 1, x.errorKind());
        }
        x.load(0);
        CHECK.due("a legal text", 0, x.errorKind());
    }

    private static void errorPosition() {
        CHECK.quote("Returns the position of that error in the text; NONE if errorKind() is 0.");
        AdMarketplace x = new AdMarketplace();
        CHECK.due("no load", -1, x.errorPosition());
        Check.load(x, "?");
        CHECK.due("the first byte", 0, x.errorPosition());
        CHECK.argument("a load that throws", () -> x.load(-1));
        CHECK.due("the first byte still", 0, x.errorPosition());
        Check.load(x, " ".repeat(599) + "?");
        CHECK.due("the last byte", 599, x.errorPosition());
        Check.load(x, " ".repeat(597) + "day");
        CHECK.due("the end", 600, x.errorPosition());
        x.load(0);
        CHECK.due("a legal text", -1, x.errorPosition());
    }

    private static void counts() {
        CHECK.quote("`int campaigns()`: Returns the number of campaigns.");
        CHECK.due("none", 0, new AdMarketplace().campaigns());
        String eight = "";
        for (char c = 'a'; c <= 'h'; c++) {
            eight += "campaign " + c + " 1 1 1 1 any;";
        }
        CHECK.due("eight", 8, Check.open(eight).campaigns());
        CHECK.quote("`int tags()`: Returns the number of tags.");
        CHECK.due("none", 0, new AdMarketplace().tags());
        CHECK.due("six", 6, Check.open("tag a 1;tag b 1;tag c 1;tag d 1;tag e 1;tag f 1;").tags());
        CHECK.quote("`int slots()`: Returns the number of factors.");
        CHECK.due("without a statement", 1, new AdMarketplace().slots());
        for (int count = 1; count <= 4; count++) {
            CHECK.due(count + " factors", count, Check.open("slots" + " 7".repeat(count) + ";").slots());
        }
    }

    private static void modes() {
        CHECK.quote("Returns 0 for fast, 1 for even, 2 for strict.");
        AdMarketplace x = Check.open("campaign a 1 1 1 1 any;");
        CHECK.due("without a statement", 0, x.mode(0));
        for (int mode = 0; mode <= 2; mode++) {
            x.setMode(0, mode);
            CHECK.due("set", mode, x.mode(0));
        }
    }

    private static void refusals() {
        CHECK.quote("Returns 1 to 6; 0 if it would not be refused.");
        Twins busy = new Twins(CHECK, Busy::grow);
        busy.answers("not refused", 0, x -> x.refusal(0, 0, 0));
        busy.answers("paused", 1, x -> x.refusal(2, 15, 1));
        busy.answers("another tag", 2, x -> x.refusal(1, 0, 1));
        busy.index("campaign 3", x -> x.refusal(3, 0, 0));
        busy.index("tag 2", x -> x.refusal(0, 0, 2));
        busy.argument("user 16", x -> x.refusal(0, 16, 0));
        busy.argument("user -1", x -> x.refusal(0, -1, 0));
    }

    private static void ranked() {
        CHECK.quote("Returns the campaign; NONE if there are not so many.");
        Twins busy = new Twins(CHECK, Busy::grow);
        busy.answers("the first place", 0, x -> x.ranked(0, 0, 0));
        busy.answers("the last place", 1, x -> x.ranked(0, 0, 1));
        busy.answers("behind the last place", -1, x -> x.ranked(0, 0, 2));
        busy.answers("the greatest place", -1, x -> x.ranked(0, 0, Integer.MAX_VALUE));
        busy.argument("before the first place", x -> x.ranked(0, 0, -1));
        AdMarketplace y = Check.open("tag t 0;");
        CHECK.due("nobody", -1, y.ranked(0, 0, 0));
    }

    private static void winnersAndPrices() {
        CHECK.quote("Returns the campaign; NONE if the slot would not be filled.");
        Twins busy = new Twins(CHECK, Busy::grow);
        busy.answers("the first slot", 0, x -> x.winner(0, 0, 0));
        busy.answers("the last slot", 1, x -> x.winner(0, 0, 1));
        busy.answers("a slot that is not filled", -1, x -> x.winner(0, 1, 1));
        busy.argument("no such slot", x -> x.winner(0, 0, 2));
        CHECK.quote("Returns the price; NONE if the slot would not be filled.");
        busy.answers("the first slot", 16, x -> x.price(0, 0, 0));
        busy.answers("the last slot", 2, x -> x.price(0, 0, 1));
        busy.answers("a slot that is not filled", -1, x -> x.price(0, 1, 1));
        busy.argument("no such slot", x -> x.price(0, 0, 2));
        AdMarketplace y = Check.open("tag t 0;campaign a 9 90 9 9 any;");
        CHECK.due("a slot that is filled for nothing", 0, y.price(0, 0, 0));
    }

    private static void leastBid() {
        CHECK.quote("Returns the bid, 1 to 999; NONE if there is none.");
        String two = "campaign a 5 9999 9 9 any;campaign b 5 9999 9 9 any;";
        AdMarketplace x = Check.open("slots 9 9;tag t 0;tag u 1;tag v 2;tag w 999;" + two);
        CHECK.due("no rival for the second slot", 1, x.leastBid(0, 0, 0, 2));
        CHECK.due("a floor of 1", 1, x.leastBid(0, 0, 1, 2));
        CHECK.due("a floor of 2", 2, x.leastBid(0, 0, 2, 2));
        CHECK.due("a floor of 999", 999, x.leastBid(0, 0, 3, 2));
        CHECK.due("ahead of an equal one", 5, x.leastBid(0, 0, 0, 1));
        CHECK.due("behind an equal one", 6, x.leastBid(1, 0, 0, 1));
        x.setBid(0, 998);
        CHECK.due("behind 998", 999, x.leastBid(1, 0, 0, 1));
        x.setBid(0, 999);
        CHECK.due("behind 999", -1, x.leastBid(1, 0, 0, 1));
        x.setBid(1, 999);
        CHECK.due("ahead of 999", 999, x.leastBid(0, 0, 0, 1));
        x.setBudget(0, 998);
        CHECK.due("one less than the budget must have", -1, x.leastBid(0, 0, 0, 1));
        x.setBudget(0, 999);
        CHECK.due("just as much as the budget must have", 999, x.leastBid(0, 0, 0, 1));
        x.setBudget(0, 1);
        CHECK.due("a budget of 1 for the second slot", 1, x.leastBid(0, 0, 0, 2));
        CHECK.due("a budget of 1 and a floor of 2", -1, x.leastBid(0, 0, 2, 2));
        AdMarketplace alone = Check.open("tag t 0;campaign a 999 1 9 9 any;");
        CHECK.due("alone, with a bid that it cannot pay", 1, alone.leastBid(0, 0, 0, 1));
        AdMarketplace apart = Check.open("slots 9 9 9 9;tag t 0;" + two + "apart a b;");
        CHECK.due("apart from the smaller number", 6, apart.leastBid(1, 0, 0, 4));
        CHECK.due("apart from the greater number", 5, apart.leastBid(0, 0, 0, 4));
    }

    private static void bestFloor() {
        CHECK.quote("Returns the floor, 0 to 999; the smallest one of several.");
        AdMarketplace x = Check.open("slots 100 100;tag t 500;campaign a 999 9999 9 9 any;campaign b 999 9999 9 9 any;");
        CHECK.due("no floor is needed for the first of two equal ones", 0, x.bestFloor(0, 0, 1));
        CHECK.due("the greatest one for two slots", 999, x.bestFloor(0, 0, 2));
        x.pause(1);
        CHECK.due("the greatest one for one campaign", 999, x.bestFloor(0, 0, 1));
        x.setBid(0, 1);
        CHECK.due("the least bid", 1, x.bestFloor(0, 0, 1));
        x.pause(0);
        CHECK.due("nobody", 0, x.bestFloor(0, 0, 2));
        AdMarketplace y = Check.open("slots 1;tag t 0;campaign a 1 9999 9 9 any;");
        int[][] due = {{1, 1}, {99, 1}, {100, 1}, {101, 101}, {200, 101}, {201, 201}, {999, 901}};
        for (int[] line : due) {
            y.setBid(0, line[0]);
            CHECK.due("one per cent of " + line[0], line[1], y.bestFloor(0, 0, 1));
        }
        AdMarketplace z = Check.open("slots 100 100;tag t 0;campaign a 20 9999 9 9 any;campaign b 10 9999 9 9 any;");
        CHECK.due("20 for one and 10 for each of two earn the same", 10, z.bestFloor(0, 0, 2));
        z.setBid(0, 21);
        CHECK.due("21 for one earns more", 21, z.bestFloor(0, 0, 2));
        z.setBid(0, 19);
        CHECK.due("19 for one earns less", 10, z.bestFloor(0, 0, 2));
    }

    private static void revenueAfter() {
        CHECK.quote("Returns the sum of all prices if, from now on, for so many ticks, a request came in each tick,");
        Twins free = new Twins(CHECK, x -> Check.load(x, "day 1;slots 100 100;tag t 3;tag u 0;campaign a 3 9999 9 1 any;campaign b 3 9999 9 1 any;"));
        free.answers("one tick", 3, x -> x.revenueAfter(0, 1, 1));
        free.answers("one tick, two slots", 6, x -> x.revenueAfter(0, 2, 1));
        free.answers("60 ticks", 180, x -> x.revenueAfter(0, 1, 60));
        free.answers("60 ticks, two slots", 360, x -> x.revenueAfter(0, 2, 60));
        free.answers("the last tag", 60 * 3, x -> x.revenueAfter(1, 2, 60));
        free.argument("no tick", x -> x.revenueAfter(0, 1, 0));
        free.argument("61 ticks", x -> x.revenueAfter(0, 1, 61));
        free.argument("no slot", x -> x.revenueAfter(0, 0, 1));
        free.argument("three slots", x -> x.revenueAfter(0, 3, 1));
        AdMarketplace y = Check.open("tag t 3;");
        CHECK.due("nobody", 0, y.revenueAfter(0, 1, 60));
    }

    private static void usersInTurn() {
        CHECK.quote("from user 0 in the first one, user 1 in the second one and so on (after user 15 user 0 again), and then the tick passed;");
        for (int seen = 0; seen < 16; seen++) {
            AdMarketplace x = Check.open("day 999;tag t 1;campaign a 1 999 1 999 any;");
            x.request(seen, 0, 1);
            if (seen > 0) {
                CHECK.due("before user " + seen, seen, x.revenueAfter(0, 1, seen));
            }
            CHECK.due("with user " + seen + ", who has seen it", seen, x.revenueAfter(0, 1, seen + 1));
            CHECK.due("all users", 15, x.revenueAfter(0, 1, 16));
            CHECK.due("all users again", 15, x.revenueAfter(0, 1, 60));
        }
        AdMarketplace y = Check.open("day 999;tag t 1;campaign a 1 999 1 16 any;");
        y.request(0, 0, 1);
        CHECK.due("user 0 in the first tick has seen it, in the 17th no more", 16, y.revenueAfter(0, 1, 17));
        AdMarketplace z = Check.open("day 2;tag t 5;campaign a 5 5 9 1 any;");
        CHECK.due("the tick passes behind the request", 5, z.revenueAfter(0, 1, 2));
        CHECK.due("a new day for the third request", 10, z.revenueAfter(0, 1, 3));
        z.pass(1);
        CHECK.due("a new day for the second request", 10, z.revenueAfter(0, 1, 2));
    }

    private static void limitsDoNotApply() {
        CHECK.quote("the limits for the numbers of impressions and ticks do not apply to this.");
        Twins full = new Twins(CHECK, x -> {
            Check.load(x, "day 1;slots 100 100 100 100;tag t 2;campaign a 2 999 9 1 any;campaign b 2 999 9 1 any;"
                + "campaign c 2 999 9 1 any;campaign d 2 999 9 1 any;");
            for (int i = 0; i < 40; i++) {
                x.request(i % 16, 0, 4);
            }
            for (int i = 0; i < 49; i++) {
                x.pass(200);
            }
            x.pass(199);
        });
        full.answers("impressions", 160, x -> x.impressions());
        full.answers("tick", 9999, x -> x.tick());
        full.answers("240 more impressions in 60 more ticks", 480, x -> x.revenueAfter(0, 4, 60));
        full.answers("one more tick", 8, x -> x.revenueAfter(0, 4, 1));
        full.answers("a multiplier", 100, x -> x.multiplierAfter(3, 0, 4, 60));
        full.answers("a mode", 0, x -> x.bestMode(3, 0, 4, 60));
    }

    private static void multiplierAfter() {
        CHECK.quote("Returns the multiplier that a campaign would have after these requests and ticks.");
        Twins pacing = new Twins(CHECK, x -> Check.load(x, "day 999;tag t 10;campaign a 10 99 9 1 any;campaign b 1 99 9 1 any;"
            + "pace a even;pace b strict;"));
        pacing.answers("one tick", 90, x -> x.multiplierAfter(0, 0, 1, 1));
        pacing.answers("nothing is bought any more at 90: ten ticks", 10, x -> x.multiplierAfter(0, 0, 1, 10));
        pacing.answers("the last campaign, which has spent nothing", 100, x -> x.multiplierAfter(1, 0, 1, 60));
        pacing.answers("60 ticks", 10, x -> x.multiplierAfter(0, 0, 1, 60));
        pacing.argument("no tick", x -> x.multiplierAfter(0, 0, 1, 0));
        pacing.argument("61 ticks", x -> x.multiplierAfter(0, 0, 1, 61));
        pacing.argument("two slots", x -> x.multiplierAfter(0, 0, 2, 1));
        AdMarketplace y = Check.open("day 60;tag t 10;campaign a 10 99 9 1 any;pace a even;");
        CHECK.due("10 is more than the plan in six ticks", 40, y.multiplierAfter(0, 0, 1, 6));
        CHECK.due("and less in the four behind them", 60, y.multiplierAfter(0, 0, 1, 10));
        CHECK.due("a new day begins at the end", 100, y.multiplierAfter(0, 0, 1, 60));
    }

    private static void bestMode() {
        CHECK.quote("Returns the mode, 0 to 2; the smallest one of several.");
        AdMarketplace x = Check.open("day 99;tag t 1;campaign a 1 999 9 1 any;");
        CHECK.due("all are equal", 0, x.bestMode(0, 0, 1, 1));
        x.setMode(0, 2);
        CHECK.due("all are equal, though strict now", 0, x.bestMode(0, 0, 1, 60));
        x.pause(0);
        CHECK.due("never shown", 0, x.bestMode(0, 0, 1, 60));
        AdMarketplace even = Check.open("day 60;tag t 1;campaign a 10 60 9 1 any;campaign b 9 18 9 1 any;");
        CHECK.due("even alone is best", 1, even.bestMode(0, 0, 1, 60));
        AdMarketplace strict = Check.open("day 7;tag t 1;campaign a 9 24 9 1 any;campaign b 8 9 9 1 any;");
        CHECK.due("strict alone is best", 2, strict.bestMode(0, 0, 1, 7));
        Twins busy = new Twins(CHECK, Busy::grow);
        busy.argument("no tick", y -> y.bestMode(0, 0, 1, 0));
        busy.argument("61 ticks", y -> y.bestMode(0, 0, 1, 61));
        busy.argument("three slots", y -> y.bestMode(0, 0, 3, 1));
    }

    private static void nothingChanges() {
        CHECK.quote("the interface says: ---- auctions; nothing changes.");
        Twins busy = new Twins(CHECK, Busy::grow);
        busy.answers("refusal", 0, x -> x.refusal(0, 0, 0));
        busy.answers("ranked", 1, x -> x.ranked(0, 0, 1));
        busy.answers("winner", 1, x -> x.winner(0, 0, 1));
        busy.answers("price", 16, x -> x.price(0, 0, 0));
        busy.answers("leastBid", 17, x -> x.leastBid(0, 0, 0, 1));
        busy.answers("leastBid of none", -1, x -> x.leastBid(2, 0, 0, 2));
        busy.answers("bestFloor", 15, x -> x.bestFloor(0, 0, 2));
        busy.answers("revenueAfter", true, x -> x.revenueAfter(0, 2, 60) > 0);
        busy.answers("multiplierAfter", true, x -> x.multiplierAfter(0, 0, 2, 60) > 0);
        busy.answers("bestMode", true, x -> x.bestMode(0, 0, 2, 60) >= 0);
        busy.answers("bestMode of a paused one", 0, x -> x.bestMode(2, 1, 2, 60));
    }
}
