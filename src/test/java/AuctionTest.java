/** Promises 18 to 23 and the terms under REQUESTS. */
final class AuctionTest {
    private static final Check CHECK = new Check("AuctionTest");
    private static final int[] WRONG_USERS = {-1, 16, Integer.MIN_VALUE, Integer.MAX_VALUE};

    public static void main(String[] args) {
        reasons();
        firstReason();
        capWindow();
        strictPlan();
        ranking();
        winnersAndPrices();
        keptApart();
        priceRounding();
        leastBid();
        leastBidKeptApart();
        leastBidPaced();
        bestFloor();
        wrongArguments();
        nothingChanges();
        CHECK.end();
    }

    /** Promise 18: each reason alone. */
    private static void reasons() {
        AdMarketplace x = Check.open("day 10;tag t 5;tag u 0;campaign a 9 90 1 3 any;campaign b 9 90 9 9 u;"
            + "campaign c 9 8 9 9 any;campaign d 4 90 9 9 any;campaign e 5 5 9 9 t;");
        CHECK.due("no reason", 0, x.refusal(0, 0, 0));
        CHECK.due("another target", 2, x.refusal(1, 0, 0));
        CHECK.due("its target", 0, x.refusal(1, 0, 1));
        CHECK.due("too little budget", 3, x.refusal(2, 0, 0));
        CHECK.due("just enough budget, bid as the floor", 0, x.refusal(4, 0, 0));
        CHECK.due("below the floor", 6, x.refusal(3, 0, 0));
        CHECK.due("not below the other floor", 0, x.refusal(3, 0, 1));
        x.pause(0);
        CHECK.due("paused", 1, x.refusal(0, 0, 0));
        x.resume(0);
        x.request(15, 0, 1);
        CHECK.due("capped for the user", 4, x.refusal(0, 15, 0));
        CHECK.due("not capped for another user", 0, x.refusal(0, 14, 0));
    }

    /** Every reason applies; they fall away one by one. */
    private static void firstReason() {
        AdMarketplace x = Check.open("day 100;tag t 8;tag u 0;campaign a 9 10 1 99 t;pace a strict;");
        x.setBudget(0, 100);
        x.setBudget(0, 900);
        x.request(0, 0, 1);
        x.setBudget(0, 16);
        x.setFloor(0, 10);
        x.setFloor(1, 10);
        x.pause(0);
        CHECK.due("1 comes first", 1, x.refusal(0, 0, 1));
        x.resume(0);
        CHECK.due("2 before 3", 2, x.refusal(0, 0, 1));
        CHECK.due("3 before 4", 3, x.refusal(0, 0, 0));
        x.setBudget(0, 17);
        CHECK.due("4 before 5", 4, x.refusal(0, 0, 0));
        CHECK.due("5 before 6", 5, x.refusal(0, 1, 0));
        x.setMode(0, 1);
        CHECK.due("6 comes last", 6, x.refusal(0, 1, 0));
        x.setFloor(0, 9);
        CHECK.due("no reason is left", 0, x.refusal(0, 1, 0));
    }

    private static void capWindow() {
        AdMarketplace x = Check.open("tag t 1;campaign a 9 900 2 3 any;");
        x.request(0, 0, 1);
        CHECK.due("one of two", 0, x.refusal(0, 0, 0));
        x.pass(1);
        x.request(0, 0, 1);
        CHECK.due("two of two", 4, x.refusal(0, 0, 0));
        x.pass(1);
        CHECK.due("the first is 2 ticks old, within 3", 4, x.refusal(0, 0, 0));
        x.pass(1);
        CHECK.due("the first is 3 ticks old", 0, x.refusal(0, 0, 0));
        AdMarketplace y = Check.open("tag t 1;campaign a 9 900 1 1 any;");
        y.request(0, 0, 1);
        CHECK.due("a window of one tick", 4, y.refusal(0, 0, 0));
        y.pass(1);
        CHECK.due("the next tick", 0, y.refusal(0, 0, 0));
    }

    private static void strictPlan() {
        AdMarketplace x = Check.open("day 10;tag t 5;campaign a 7 100 9 9 any;pace a strict;");
        x.request(0, 0, 1);
        CHECK.due("5 of the plan 10", 0, x.refusal(0, 0, 0));
        x.request(0, 0, 1);
        CHECK.due("spent as planned", 5, x.refusal(0, 0, 0));
        x.setMode(0, 1);
        CHECK.due("an even one may spend more", 0, x.refusal(0, 0, 0));
        x.setMode(0, 2);
        x.pass(1);
        CHECK.due("the plan has grown", 0, x.refusal(0, 0, 0));
        AdMarketplace y = Check.open("day 100;tag t 0;campaign a 1 99 9 9 any;pace a strict;");
        CHECK.due("a plan of 0 is not less", 5, y.refusal(0, 0, 0));
    }

    /** Promise 19. */
    private static void ranking() {
        AdMarketplace x = Check.open("tag t 3;campaign a 5 90 9 9 any;campaign b 7 90 9 9 any;campaign c 5 90 9 9 any;"
            + "campaign d 2 90 9 9 any;campaign e 7 90 9 9 any;");
        int[] due = {1, 4, 0, 2, -1, -1};
        for (int place = 0; place < due.length; place++) {
            CHECK.due("ranked at " + place, due[place], x.ranked(0, 0, place));
        }
        CHECK.due("ranked at the greatest place", -1, x.ranked(0, 0, Integer.MAX_VALUE));
        x.pause(1);
        CHECK.due("the first one paused", 4, x.ranked(0, 0, 0));
        x.setFloor(0, 8);
        CHECK.due("nobody is left", -1, x.ranked(0, 0, 0));
        AdMarketplace y = Check.open("day 100;tag t 9;campaign a 10 900 9 9 any;pace a even;campaign b 9 900 9 9 any;");
        y.request(0, 0, 1);
        y.request(0, 0, 1);
        y.pass(1);
        CHECK.due("effective bid", 9, y.effectiveBid(0));
        CHECK.due("equal effective bids: by number", 0, y.ranked(0, 0, 0));
        y.request(0, 0, 1);
        y.pass(1);
        y.setFloor(0, 0);
        CHECK.due("effective bid", 8, y.effectiveBid(0));
        CHECK.due("effective bids decide, not bids", 1, y.ranked(0, 0, 0));
        CHECK.due("the greater bid comes second", 0, y.ranked(0, 0, 1));
    }

    /** Promises 20 and 21. */
    private static void winnersAndPrices() {
        AdMarketplace x = Check.open("slots 100 50 25;tag t 10;campaign a 20 90 9 9 any;campaign b 31 90 9 9 any;"
            + "campaign c 9 90 9 9 any;");
        CHECK.due("winner of slot 0", 1, x.winner(0, 0, 0));
        CHECK.due("price of slot 0: the next bid", 20, x.price(0, 0, 0));
        CHECK.due("winner of slot 1", 0, x.winner(0, 0, 1));
        CHECK.due("price of slot 1: the floor * 50 / 100", 5, x.price(0, 0, 1));
        CHECK.due("slot 2 is not filled", -1, x.winner(0, 0, 2));
        CHECK.due("slot 2 has no price", -1, x.price(0, 0, 2));
        x.setFloor(0, 0);
        CHECK.due("slot 2 is filled now", 2, x.winner(0, 0, 2));
        CHECK.due("slot 1 is priced by the third bid, rounded up", 5, x.price(0, 0, 1));
        CHECK.due("slot 2 costs nothing", 0, x.price(0, 0, 2));
        x.setFloor(0, 25);
        CHECK.due("the floor above the next bid", 25, x.price(0, 0, 0));
        CHECK.due("then nobody is second", -1, x.winner(0, 0, 1));
    }

    private static void keptApart() {
        AdMarketplace x = Check.open("slots 100 100 100;tag t 1;campaign a 50 900 9 9 any;campaign b 40 900 9 9 any;"
            + "campaign c 30 900 9 9 any;campaign d 20 900 9 9 any;apart b a;apart c b;");
        CHECK.due("slot 0", 0, x.winner(0, 0, 0));
        CHECK.due("slot 0 is priced by the next one, though it gets no slot", 40, x.price(0, 0, 0));
        CHECK.due("slot 1 passes over b; c is not apart from a", 2, x.winner(0, 0, 1));
        CHECK.due("price of slot 1", 20, x.price(0, 0, 1));
        CHECK.due("slot 2", 3, x.winner(0, 0, 2));
        CHECK.due("price of slot 2", 1, x.price(0, 0, 2));
        x.pause(0);
        CHECK.due("without a, b gets slot 0", 1, x.winner(0, 0, 0));
        CHECK.due("and c gets none", 3, x.winner(0, 0, 1));
        CHECK.due("nobody is left", -1, x.winner(0, 0, 2));
        CHECK.due("request fills two", 2, x.request(0, 0, 3));
        CHECK.due("shown in another request does not matter", 1, x.winner(0, 0, 0));
    }

    private static void priceRounding() {
        AdMarketplace x = Check.open("slots 33 1;tag t 101;campaign a 999 9000 9 9 any;campaign b 998 9000 9 9 any;");
        CHECK.due("998 * 33 / 100, rounded up", 330, x.price(0, 0, 0));
        CHECK.due("101 * 1 / 100, rounded up", 2, x.price(0, 0, 1));
        x.setFloor(0, 100);
        CHECK.due("100 * 1 / 100", 1, x.price(0, 0, 1));
    }

    /** Promise 22. */
    private static void leastBid() {
        AdMarketplace x = Check.open("slots 9 9;tag t 5;campaign a 20 900 9 9 any;campaign b 30 900 9 9 any;"
            + "campaign c 40 900 9 9 any;tag u 0;campaign d 1 900 1 9 t;");
        CHECK.due("a before b's equal bid: one slot", 40, x.leastBid(0, 0, 0, 1));
        CHECK.due("a among two slots: as much as b", 30, x.leastBid(0, 0, 0, 2));
        CHECK.due("d behind c's equal bid", 41, x.leastBid(3, 0, 0, 1));
        CHECK.due("c itself", 31, x.leastBid(2, 0, 0, 1));
        CHECK.due("b keeps the second slot", 21, x.leastBid(1, 0, 0, 2));
        CHECK.due("another target", -1, x.leastBid(3, 0, 1, 1));
        x.pause(1);
        x.pause(2);
        CHECK.due("the floor must be reached", 5, x.leastBid(0, 0, 0, 1));
        CHECK.due("the smallest of all", 1, x.leastBid(0, 0, 1, 1));
        CHECK.due("a paused one", -1, x.leastBid(1, 0, 0, 1));
        x.setBudget(0, 5);
        CHECK.due("enough budget", 5, x.leastBid(0, 0, 0, 1));
        x.setBudget(0, 4);
        CHECK.due("too little budget", -1, x.leastBid(0, 0, 0, 1));
        x.setBid(3, 999);
        x.setBudget(0, 9999);
        CHECK.due("a rival without the budget for its bid is no rival", 5, x.leastBid(0, 0, 0, 1));
        x.setBudget(3, 9999);
        CHECK.due("999 is enough for the smaller number", 999, x.leastBid(0, 0, 0, 1));
        x.resume(2);
        x.setBid(0, 999);
        x.setBid(3, 1);
        x.setBudget(2, 9999);
        CHECK.due("999 is not enough for the greater number", -1, x.leastBid(2, 0, 0, 1));
        CHECK.due("the bid stays", 40, x.bid(2));
        CHECK.due("for two slots a bid is enough", 5, x.leastBid(2, 0, 0, 2));
        x.setBid(3, 999);
        x.request(0, 0, 2);
        CHECK.due("capped", -1, x.leastBid(3, 0, 0, 2));
        CHECK.due("not capped for another user", 41, x.leastBid(3, 1, 0, 2));
        x.setMode(3, 2);
        x.setBudget(3, 100);
        CHECK.due("strict and beyond its plan", -1, x.leastBid(3, 1, 0, 2));
    }

    private static void leastBidKeptApart() {
        AdMarketplace x = Check.open("slots 9 9 9;tag t 0;campaign a 50 900 9 9 any;campaign b 40 900 9 9 any;"
            + "campaign c 30 900 9 9 any;campaign d 5 900 9 9 any;apart a b;apart c d;apart b d;");
        CHECK.due("d must be ahead of c; b is passed over", 31, x.leastBid(3, 0, 0, 3));
        CHECK.due("b must be ahead of a", 51, x.leastBid(1, 0, 0, 3));
        CHECK.due("a at the bottom would be shut out by b", 40, x.leastBid(0, 0, 0, 3));
        x.pause(0);
        CHECK.due("without a, b comes first and d must be ahead of it", 41, x.leastBid(3, 0, 0, 3));
        CHECK.due("c is not apart from b, and d is passed over", 1, x.leastBid(2, 0, 0, 3));
    }

    private static void leastBidPaced() {
        AdMarketplace x = Check.open("day 100;tag t 0;campaign a 50 9999 9 99 any;campaign b 47 900 9 99 any;pace a even;");
        x.request(0, 0, 1);
        x.setBudget(0, 100);
        x.pass(7);
        CHECK.due("multiplier", 30, x.multiplier(0));
        CHECK.due("155 * 30 / 100, rounded up, is 47", 154, x.leastBid(0, 0, 0, 1));
        x.setBudget(0, 93);
        CHECK.due("the effective bid must be left", -1, x.leastBid(0, 0, 0, 1));
        x.setBudget(0, 94);
        CHECK.due("the effective bid is left", 154, x.leastBid(0, 0, 0, 1));
        x.pass(2);
        CHECK.due("multiplier", 10, x.multiplier(0));
        CHECK.due("46 * 10 + 1", 461, x.leastBid(0, 0, 0, 1));
        x.setBid(1, 100);
        CHECK.due("991 would do, but the budget is too small", -1, x.leastBid(0, 0, 0, 1));
        x.setBudget(0, 9999);
        CHECK.due("991 does", 991, x.leastBid(0, 0, 0, 1));
        x.setBid(1, 101);
        CHECK.due("1001 would be too much", -1, x.leastBid(0, 0, 0, 1));
    }

    /** Promise 23. */
    private static void bestFloor() {
        AdMarketplace x = Check.open("slots 100 50;tag t 7;campaign a 100 900 9 9 any;campaign b 40 900 9 9 any;");
        CHECK.due("the first bid", 100, x.bestFloor(0, 0, 1));
        CHECK.due("one slot at 100 beats two at 60", 100, x.bestFloor(0, 0, 2));
        x.setBid(1, 70);
        CHECK.due("two slots: 70 + 35 beat 100", 69, x.bestFloor(0, 0, 2));
        CHECK.due("the floor stays", 7, x.floor(0));
        x.setBid(1, 80);
        x.setBid(0, 120);
        CHECK.due("equal sums: 80 + 40 at 79, 120 at 120", 79, x.bestFloor(0, 0, 2));
        x.setBid(1, 999);
        x.setBudget(1, 999);
        CHECK.due("the greatest floor", 999, x.bestFloor(0, 0, 1));
        x.setBid(0, 999);
        x.setBudget(0, 999);
        CHECK.due("equal bids need no floor for one slot", 0, x.bestFloor(0, 0, 1));
        x.pause(0);
        x.pause(1);
        CHECK.due("nobody bids", 0, x.bestFloor(0, 0, 2));
        AdMarketplace y = Check.open("slots 10;tag t 999;campaign a 95 900 9 9 any;");
        CHECK.due("the smallest floor with the price 10", 91, y.bestFloor(0, 0, 1));
    }

    private static void wrongArguments() {
        AdMarketplace x = Check.open("slots 9 8;tag t 0;campaign a 5 90 9 9 any;");
        for (int wrong : new int[] {-1, 1, Integer.MIN_VALUE, Integer.MAX_VALUE}) {
            CHECK.index("refusal of campaign " + wrong, () -> x.refusal(wrong, -1, 0));
            CHECK.index("refusal for tag " + wrong, () -> x.refusal(0, -1, wrong));
            CHECK.index("ranked for tag " + wrong, () -> x.ranked(-1, wrong, -1));
            CHECK.index("winner for tag " + wrong, () -> x.winner(-1, wrong, -1));
            CHECK.index("price for tag " + wrong, () -> x.price(-1, wrong, -1));
            CHECK.index("leastBid of campaign " + wrong, () -> x.leastBid(wrong, -1, 0, 0));
            CHECK.index("leastBid for tag " + wrong, () -> x.leastBid(0, -1, wrong, 0));
            CHECK.index("bestFloor for tag " + wrong, () -> x.bestFloor(-1, wrong, 0));
        }
        for (int wrong : WRONG_USERS) {
            CHECK.argument("refusal for user " + wrong, () -> x.refusal(0, wrong, 0));
            CHECK.argument("ranked for user " + wrong, () -> x.ranked(wrong, 0, 0));
            CHECK.argument("winner for user " + wrong, () -> x.winner(wrong, 0, 0));
            CHECK.argument("price for user " + wrong, () -> x.price(wrong, 0, 0));
            CHECK.argument("leastBid for user " + wrong, () -> x.leastBid(0, wrong, 0, 1));
            CHECK.argument("bestFloor for user " + wrong, () -> x.bestFloor(wrong, 0, 1));
        }
        for (int wrong : new int[] {-1, 2, 3, 4, Integer.MIN_VALUE, Integer.MAX_VALUE}) {
            CHECK.argument("winner of slot " + wrong, () -> x.winner(0, 0, wrong));
            CHECK.argument("price of slot " + wrong, () -> x.price(0, 0, wrong));
        }
        for (int wrong : new int[] {-1, 0, 3, 4, Integer.MIN_VALUE, Integer.MAX_VALUE}) {
            CHECK.argument("leastBid for slots " + wrong, () -> x.leastBid(0, 0, 0, wrong));
            CHECK.argument("bestFloor for slots " + wrong, () -> x.bestFloor(0, 0, wrong));
        }
        CHECK.argument("ranked at place -1", () -> x.ranked(0, 0, -1));
        CHECK.argument("ranked at the smallest place", () -> x.ranked(0, 0, Integer.MIN_VALUE));
        CHECK.due("user 15 is in range", 0, x.winner(15, 0, 0));
    }

    private static void nothingChanges() {
        AdMarketplace x = Check.open("slots 9 8;tag t 3;campaign a 5 90 9 9 any;campaign b 6 90 9 9 any;");
        x.refusal(0, 0, 0);
        x.ranked(0, 0, 0);
        x.winner(0, 0, 1);
        x.price(0, 0, 1);
        x.leastBid(0, 0, 0, 1);
        x.bestFloor(0, 0, 2);
        CHECK.due("bid", 5, x.bid(0));
        CHECK.due("floor", 3, x.floor(0));
        CHECK.due("spent", 0, x.spent(1));
        CHECK.due("impressions", 0, x.impressions());
        CHECK.due("no edit", -1, x.undo());
    }
}
