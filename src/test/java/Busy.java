/** An object with a past: edits of every kind but resume, an output, an error and a buffer that is not empty. */
final class Busy {
    static final int CAMPAIGNS = 3;
    static final int TAGS = 2;
    static final int SLOTS = 2;
    static final int IMPRESSIONS = 4;
    /** What the output has. */
    static final String OUTPUT = "a even: 35/100 at 18, seen by 3";
    /** How many bytes the buffer has. */
    static final int HELD = 20;

    private Busy() {
    }

    /** Ten edits, of which the latest eight are remembered; campaign 2 is paused. */
    static void grow(AdMarketplace x) {
        Check.load(x, "day 10;attribute 5;slots 100 50;tag t 4;tag u 0;campaign a 20 100 3 4 any;campaign b 15 90 2 6 t;"
            + "campaign c 10 80 9 9 any;pace a even;pace b strict;apart a c;");
        x.request(0, 0, 2);
        x.pass(1);
        x.convert(0, 70);
        x.request(15, 1, 1);
        x.request(1, 1, 2);
        x.pause(2);
        x.setBid(1, 16);
        x.setBudget(1, 95);
        x.setFloor(1, 3);
        x.setMode(2, 1);
        x.write(0);
        Check.load(x, "tag u 5;tag");
        Check.feed(x, "tag z 9;day 5;oops");
    }

    static AdMarketplace grown() {
        AdMarketplace x = new AdMarketplace();
        grow(x);
        return x;
    }
}
