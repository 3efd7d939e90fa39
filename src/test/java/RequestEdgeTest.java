/** The sentences under REQUESTS that name a boundary case, in the order of the document. */
final class RequestEdgeTest {
    private static final Check CHECK = new Check("RequestEdgeTest");

    public static void main(String[] args) {
        usersAndSlots();
        firstReason();
        paused();
        anotherTag();
        budgetLeft();
        cap();
        window();
        strictPlan();
        belowFloor();
        ranking();
        keptApart();
        allSlotsFilled();
        allLookedAt();
        basePrice();
        nobodyFollows();
        roundedUp();
        spends();
        CHECK.end();
    }

    private static void usersAndSlots() {
        CHECK.quote("A request has a user (0 to 15), a tag, and a number of slots (1 to the number of factors).");
        AdMarketplace x = Check.open("slots 9 8 7 6;tag t 0;tag u 0;campaign a 5 90 9 9 any;campaign b 5 90 9 9 any;"
            + "campaign c 5 90 9 9 any;campaign d 5 90 9 9 any;campaign e 5 90 9 9 any;");
        CHECK.due("user 0, tag 0, 1 slot", 1, x.request(0, 0, 1));
        CHECK.due("user 15, tag 1, 4 slots", 4, x.request(15, 1, 4));
        CHECK.argument("user -1", () -> x.request(-1, 0, 1));
        CHECK.argument("user 16", () -> x.request(16, 0, 1));
        CHECK.index("tag -1", () -> x.request(0, -1, 1));
        CHECK.index("tag 2", () -> x.request(0, 2, 1));
        CHECK.argument("no slot", () -> x.request(0, 0, 0));
        CHECK.argument("5 slots", () -> x.request(0, 0, 5));
        CHECK.due("impressions", 5, x.impressions());
        AdMarketplace y = Check.open("tag t 0;campaign a 5 90 9 9 any;");
        CHECK.due("1 slot of one", 1, y.request(0, 0, 1));
        CHECK.argument("2 slots of one", () -> y.request(0, 0, 2));
    }

    /** All six reasons apply at first; one falls away after the other. */
    private static void firstReason() {
        CHECK.quote("A campaign is refused for the first of these reasons that applies:");
        AdMarketplace x = Check.open("day 99;tag t 9;tag u 11;campaign a 10 900 1 9 t;");
        x.request(0, 0, 1);
        x.setMode(0, 2);
        x.setBudget(0, 18);
        x.setFloor(0, 11);
        x.pause(0);
        CHECK.due("all of them", 1, x.refusal(0, 0, 1));
        x.resume(0);
        CHECK.due("2 to 6", 2, x.refusal(0, 0, 1));
        CHECK.due("3 to 6", 3, x.refusal(0, 0, 0));
        x.setBudget(0, 19);
        CHECK.due("4 to 6", 4, x.refusal(0, 0, 0));
        CHECK.due("5 and 6", 5, x.refusal(0, 1, 0));
        x.setMode(0, 0);
        CHECK.due("6 alone", 6, x.refusal(0, 1, 0));
        x.setFloor(0, 10);
        CHECK.due("none", 0, x.refusal(0, 1, 0));
        x.setFloor(0, 11);
        CHECK.due("4 and 6", 4, x.refusal(0, 0, 0));
        x.pause(0);
        CHECK.due("1, 4 and 6", 1, x.refusal(0, 0, 0));
    }

    private static void paused() {
        CHECK.quote("1 it is paused;");
        AdMarketplace x = Check.open("tag t 0;campaign a 5 90 9 9 any;campaign b 5 90 9 9 any;");
        CHECK.due("not paused", 0, x.refusal(0, 0, 0));
        x.pause(0);
        CHECK.due("paused", 1, x.refusal(0, 0, 0));
        CHECK.due("the other one is not", 0, x.refusal(1, 0, 0));
        x.pass(200);
        CHECK.due("paused for days", 1, x.refusal(0, 0, 0));
        x.resume(0);
        CHECK.due("not paused any more", 0, x.refusal(0, 0, 0));
    }

    private static void anotherTag() {
        CHECK.quote("2 its target is another tag;");
        AdMarketplace x = Check.open("tag t 0;campaign a 5 90 9 9 t;tag u 0;campaign b 5 90 9 9 u;campaign c 5 90 9 9 any;");
        int[][] due = {{0, 2}, {2, 0}, {0, 0}};
        for (int c = 0; c < 3; c++) {
            for (int tag = 0; tag < 2; tag++) {
                CHECK.due("campaign " + c + " for tag " + tag, due[c][tag], x.refusal(c, 0, tag));
            }
        }
    }

    private static void budgetLeft() {
        CHECK.quote("3 its budget minus what it has spent is less than its effective bid;");
        AdMarketplace x = Check.open("day 99;tag t 10;campaign a 10 30 9 9 any;campaign b 9 8 9 9 any;campaign c 9 9 9 9 any;");
        x.setFloor(0, 0);
        CHECK.due("a budget less than the bid", 3, x.refusal(1, 0, 0));
        CHECK.due("a budget as great as the bid", 0, x.refusal(2, 0, 0));
        x.setFloor(0, 10);
        x.request(0, 0, 1);
        x.request(0, 0, 1);
        CHECK.due("10 left for a bid of 10", 0, x.refusal(0, 0, 0));
        x.setBid(0, 11);
        CHECK.due("10 left for a bid of 11", 3, x.refusal(0, 0, 0));
        x.setBid(0, 10);
        x.setBudget(0, 29);
        CHECK.due("9 left for a bid of 10", 3, x.refusal(0, 0, 0));
        x.setBudget(0, 20);
        CHECK.due("nothing left", 3, x.refusal(0, 0, 0));
        x.setBudget(0, 29);
        x.setMode(0, 1);
        x.setFloor(0, 9);
        x.pass(1);
        CHECK.due("effective bid", 9, x.effectiveBid(0));
        CHECK.due("9 left for an effective bid of 9", 0, x.refusal(0, 0, 0));
    }

    private static void cap() {
        CHECK.quote("4 it has had CAP or more impressions to this user");
        for (int cap = 1; cap <= 9; cap += 4) {
            AdMarketplace x = Check.open("tag t 1;campaign a 1 999 " + cap + " 9 any;");
            for (int i = 0; i < cap; i++) {
                CHECK.due(i + " of " + cap, 0, x.refusal(0, 3, 0));
                CHECK.due("request " + i, 1, x.request(3, 0, 1));
            }
            CHECK.due(cap + " of " + cap, 4, x.refusal(0, 3, 0));
            CHECK.due("a request then", 0, x.request(3, 0, 1));
            CHECK.due("another user", 0, x.refusal(0, 2, 0));
            x.undo();
            x.undo();
            CHECK.due("the last impression undone", 0, x.refusal(0, 3, 0));
        }
    }

    private static void window() {
        CHECK.quote("in the ticks from the present one minus WINDOW, plus 1, to the present one;");
        for (int window : new int[] {1, 2, 199, 200}) {
            AdMarketplace x = Check.open("day 1;tag t 1;campaign a 1 999 1 " + window + " any;");
            x.pass(5);
            x.request(0, 0, 1);
            CHECK.due("the same tick", 4, x.refusal(0, 0, 0));
            if (window > 1) {
                x.pass(window - 1);
            }
            CHECK.due("the last tick of a window of " + window, 4, x.refusal(0, 0, 0));
            x.pass(1);
            CHECK.due("the first tick behind a window of " + window, 0, x.refusal(0, 0, 0));
        }
        AdMarketplace x = Check.open("tag t 1;campaign a 1 999 1 999 any;");
        x.request(0, 0, 1);
        for (int i = 0; i < 4; i++) {
            x.pass(200);
        }
        x.pass(198);
        CHECK.due("tick 998 of a window of 999", 4, x.refusal(0, 0, 0));
        x.pass(1);
        CHECK.due("tick 999 of a window of 999", 0, x.refusal(0, 0, 0));
        AdMarketplace y = Check.open("tag t 1;campaign a 1 999 2 3 any;");
        y.request(0, 0, 1);
        y.pass(2);
        y.request(0, 0, 1);
        CHECK.due("one at each end of the window", 4, y.refusal(0, 0, 0));
        y.pass(1);
        CHECK.due("the first of them is out", 0, y.refusal(0, 0, 0));
    }

    private static int strictRefusal(int floor, String budget) {
        AdMarketplace x = Check.open("day 10;tag t " + floor + ";campaign a 20 " + budget + " 9 9 any;pace a strict;");
        x.request(0, 0, 1);
        return x.refusal(0, 0, 0);
    }

    private static void strictPlan() {
        CHECK.quote("5 its mode is strict, and it has not spent less than its plan;");
        CHECK.due("9 of 10", 0, strictRefusal(9, "100"));
        CHECK.due("10 of 10", 5, strictRefusal(10, "100"));
        CHECK.due("11 of 10", 5, strictRefusal(11, "100"));
        CHECK.due("10 of 10.9, rounded down", 5, strictRefusal(10, "109"));
        CHECK.due("10 of 11", 0, strictRefusal(10, "110"));
        AdMarketplace x = Check.open("day 10;tag t 0;campaign a 1 9 9 9 any;pace a strict;campaign b 1 10 9 9 any;pace b strict;");
        CHECK.due("nothing spent, and a plan of 0", 5, x.refusal(0, 0, 0));
        CHECK.due("nothing spent, and a plan of 1", 0, x.refusal(1, 0, 0));
        x.setMode(0, 1);
        CHECK.due("even, and a plan of 0", 0, x.refusal(0, 0, 0));
        x.setMode(0, 0);
        CHECK.due("fast, and a plan of 0", 0, x.refusal(0, 0, 0));
    }

    private static void belowFloor() {
        CHECK.quote("6 its effective bid is less than the floor of the tag.");
        AdMarketplace x = Check.open("day 99;tag t 10;tag u 0;campaign a 9 90 9 9 any;campaign b 10 90 9 9 any;campaign c 11 90 9 9 any;"
            + "pace c even;campaign d 999 999 9 9 any;");
        CHECK.due("one below", 6, x.refusal(0, 0, 0));
        CHECK.due("as great as the floor", 0, x.refusal(1, 0, 0));
        CHECK.due("one above", 0, x.refusal(2, 0, 0));
        CHECK.due("a floor of 0", 0, x.refusal(0, 0, 1));
        x.setFloor(0, 999);
        CHECK.due("the greatest floor and bid", 0, x.refusal(3, 0, 0));
        x.setBid(3, 998);
        CHECK.due("the greatest floor", 6, x.refusal(3, 0, 0));
        x.pause(3);
        x.setFloor(0, 11);
        x.request(0, 0, 1);
        x.pass(1);
        CHECK.due("the effective bid of c", 10, x.effectiveBid(2));
        CHECK.due("the effective bid counts, not the bid", 6, x.refusal(2, 0, 0));
        x.setFloor(0, 10);
        CHECK.due("the effective bid is as great as the floor", 0, x.refusal(2, 0, 0));
    }

    private static void ranking() {
        CHECK.quote("The other campaigns are ranked: greater effective bids first, equal ones by smaller numbers.");
        StringBuilder text = new StringBuilder("tag t 1;");
        int[] bids = {5, 7, 5, 8, 7, 5, 8, 6};
        for (int i = 0; i < 8; i++) {
            text.append("campaign ").append((char) ('a' + i)).append(' ').append(bids[i]).append(" 90 9 9 any;");
        }
        AdMarketplace x = Check.open(text.toString());
        int[] due = {3, 6, 1, 4, 7, 0, 2, 5};
        for (int place = 0; place < 8; place++) {
            CHECK.due("place " + place + " of all eight", due[place], x.ranked(0, 0, place));
        }
        CHECK.due("behind the last place", -1, x.ranked(0, 0, 8));
        for (int c = 0; c < 8; c++) {
            x.setBid(c, 5);
        }
        for (int place = 0; place < 8; place++) {
            CHECK.due("place " + place + " of eight equal ones", place, x.ranked(0, 0, place));
        }
        x.setBid(7, 6);
        x.setBid(0, 4);
        CHECK.due("one more", 7, x.ranked(0, 0, 0));
        CHECK.due("one less", 0, x.ranked(0, 0, 7));
        x.pause(7);
        CHECK.due("who is refused is not ranked", 1, x.ranked(0, 0, 0));
        CHECK.due("then there are seven", 0, x.ranked(0, 0, 6));
        CHECK.due("and no eighth", -1, x.ranked(0, 0, 7));
    }

    private static void keptApart() {
        CHECK.quote("each ranked campaign gets the next slot, if it need not be kept apart from one that has got a slot before;");
        String three = "slots 100 100 100;tag t 1;campaign a 30 90 9 9 any;campaign b 20 90 9 9 any;campaign c 10 90 9 9 any;";
        AdMarketplace x = Check.open(three + "apart b a;");
        CHECK.due("the second of the statement is ahead", 0, x.winner(0, 0, 0));
        CHECK.due("the first of the statement is passed over", 2, x.winner(0, 0, 1));
        CHECK.due("no third one", -1, x.winner(0, 0, 2));
        AdMarketplace y = Check.open(three + "apart a b;apart b c;");
        CHECK.due("apart from one that got no slot", 2, y.winner(0, 0, 1));
        AdMarketplace z = Check.open(three + "apart a b;apart a c;");
        CHECK.due("all apart from the first", 1, z.request(0, 0, 3));
        z.pause(0);
        CHECK.due("but not from one another", 2, z.request(0, 0, 3));
        AdMarketplace u = Check.open(three + "apart c a;");
        CHECK.due("apart from one two places ahead", 2, u.request(0, 0, 3));
        CHECK.due("the one between gets its slot", 1, u.impression(1, 2));
        CHECK.due("a request later it may be shown", 0, u.winner(0, 0, 0));
    }

    private static void allSlotsFilled() {
        CHECK.quote("until all slots of the request are filled or all ranked campaigns were looked at.");
        AdMarketplace x = Check.open("slots 100 100 100;tag t 1;campaign a 30 90 9 9 any;campaign b 20 90 9 9 any;");
        CHECK.due("fewer slots than campaigns", 1, x.request(0, 0, 1));
        CHECK.due("as many", 2, x.request(0, 0, 2));
        CHECK.due("more slots than campaigns", 2, x.request(0, 0, 3));
        x.pause(0);
        x.pause(1);
        CHECK.due("no campaign at all", 0, x.request(0, 0, 3));
        CHECK.due("impressions", 5, x.impressions());
    }

    private static void allLookedAt() {
        AdMarketplace x = Check.open("slots 9 9;tag t 1;campaign a 30 90 9 9 any;campaign b 29 90 9 9 any;campaign c 28 90 9 9 any;"
            + "campaign d 27 90 9 9 any;campaign e 26 90 9 9 any;campaign f 25 90 9 9 any;campaign g 24 90 9 9 any;"
            + "campaign h 23 90 9 9 any;apart a b;apart a c;apart a d;apart a e;apart a f;apart a g;");
        CHECK.due("the last of eight is looked at", 7, x.winner(0, 0, 1));
        x.pause(7);
        CHECK.due("all seven were looked at", -1, x.winner(0, 0, 1));
        AdMarketplace y = Check.open("tag t 1;");
        CHECK.due("a market without campaigns", 0, y.request(0, 0, 1));
        CHECK.due("is without winners", -1, y.winner(0, 0, 0));
    }

    private static void basePrice() {
        CHECK.quote("The base price of a campaign in a slot is the greater one of the floor and the effective bid of the campaign that follows it immediately in the ranking");
        AdMarketplace x = Check.open("slots 100 100;tag t 19;campaign a 30 90 9 9 any;campaign b 20 90 9 9 any;campaign c 18 90 9 9 any;");
        CHECK.due("the next bid is above the floor", 20, x.price(0, 0, 0));
        CHECK.due("the next campaign is below the floor, and not ranked", 19, x.price(0, 0, 1));
        x.setFloor(0, 20);
        CHECK.due("the next bid is the floor", 20, x.price(0, 0, 0));
        x.setFloor(0, 21);
        CHECK.due("the floor is above the next bid", 21, x.price(0, 0, 0));
        x.setFloor(0, 30);
        CHECK.due("the floor is the bid", 30, x.price(0, 0, 0));
        x.setFloor(0, 18);
        x.setBid(1, 30);
        CHECK.due("the next bid is as great as its own", 30, x.price(0, 0, 0));
        CHECK.due("a third one, for which there is no slot, is the price of the second", 18, x.price(0, 0, 1));
    }

    private static void nobodyFollows() {
        CHECK.quote("(0 if there is none), whether that one gets a slot or not.");
        AdMarketplace x = Check.open("slots 100 100;tag t 0;tag u 1;campaign a 30 90 9 9 any;campaign b 20 90 9 9 any;apart a b;");
        CHECK.due("the one that is kept apart is the price all the same", 20, x.price(0, 0, 0));
        x.pause(1);
        CHECK.due("nobody follows, and the floor is 0", 0, x.price(0, 0, 0));
        CHECK.due("nobody follows, and the floor is 1", 1, x.price(0, 1, 0));
        CHECK.due("a slot for nothing is filled", 1, x.request(3, 0, 2));
        CHECK.due("an impression for nothing", 0, x.impression(0, 4));
        CHECK.due("spent nothing", 0, x.spent(0));
        CHECK.due("reach", 1, x.reach(0));
    }

    private static int priceOf(int base, int factor) {
        return Check.open("slots " + factor + ";tag t " + base + ";campaign a 999 999 9 9 any;").price(0, 0, 0);
    }

    private static void roundedUp() {
        CHECK.quote("The price is the base price * FACTOR of the slot / 100, rounded up.");
        int[][] due = {
            {0, 1, 0}, {0, 100, 0}, {1, 1, 1}, {1, 100, 1}, {100, 1, 1}, {101, 1, 2}, {99, 1, 1}, {999, 1, 10}, {999, 100, 999},
            {999, 99, 990}, {50, 50, 25}, {51, 50, 26}, {3, 33, 1}, {4, 33, 2}, {200, 33, 66}, {201, 33, 67},
        };
        for (int[] line : due) {
            CHECK.due(line[0] + " * " + line[1] + " / 100", line[2], priceOf(line[0], line[1]));
        }
        AdMarketplace x = Check.open("slots 100 50 25 1;tag t 10;campaign a 10 90 9 9 any;campaign b 10 90 9 9 any;"
            + "campaign c 10 90 9 9 any;campaign d 10 90 9 9 any;");
        int[] prices = {10, 5, 3, 1};
        for (int slot = 0; slot < 4; slot++) {
            CHECK.due("the factor of slot " + slot, prices[slot], x.price(0, 0, slot));
        }
    }

    private static void spends() {
        CHECK.quote("The campaign spends the price; the impression (tick, user, campaign, slot, price) is recorded.");
        AdMarketplace x = Check.open("day 9;slots 100 50;tag t 10;campaign a 10 10 9 9 any;campaign b 10 10 9 9 any;");
        x.pass(9);
        CHECK.due("two slots", 2, x.request(15, 0, 2));
        CHECK.due("the whole budget is spent", 10, x.spent(0));
        CHECK.due("half of the budget is spent", 5, x.spent(1));
        CHECK.due("then both are refused", 0, x.request(15, 0, 2));
        int[][] due = {{9, 15, 0, 0, 10}, {9, 15, 1, 1, 5}};
        for (int i = 0; i < 2; i++) {
            for (int what = 0; what < 5; what++) {
                CHECK.due("part " + what + " of impression " + i, due[i][what], x.impression(i, what));
            }
        }
        CHECK.due("no more is recorded", 2, x.impressions());
    }
}
