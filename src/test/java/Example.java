public final class Example {
    public static void main(String[] args) {
        AdMarketplace x = new AdMarketplace();
        String text = "day 10; attribute 5; slots 100 50; tag news 20;\n"
            + "campaign acme 100 500 2 4 any; campaign bolt 80 300 2 4 news; campaign cafe 60 200 3 4 any;\n"
            + "pace bolt even; apart acme bolt;";
        feed(x, text);
        System.out.println("campaigns: " + x.load(text.length()));

        System.out.println("slots filled for user 7: " + x.request(7, 0, 2));
        for (int i = 0; i < x.impressions(); i++) {
            System.out.println("  campaign " + x.impression(i, 2) + " pays " + x.impression(i, 4));
        }
        System.out.println("tick: " + x.pass(1));
        System.out.println("campaign of the last impression before the conversion: " + x.convert(7, 100));
        System.out.println("credit of campaign 0, even shares: " + x.credit(0, 2));

        System.out.println("bid that campaign 1 needs for a slot: " + x.leastBid(1, 7, 0, 2));
        System.out.println("floor that earns most: " + x.bestFloor(7, 0, 2));
        System.out.println("earned in the next 10 ticks: " + x.revenueAfter(0, 2, 10));

        x.pause(0);
        System.out.println(written(x, x.write(0)));
        System.out.println("edits left to undo: " + x.undo());
        System.out.println(written(x, x.write(0)));

        feed(x, "tag news;");
        if (x.load(9) == AdMarketplace.BAD_TEXT) {
            System.out.println("error " + x.errorKind() + " at " + x.errorPosition());
        }
        try {
            x.bid(3);
        } catch (IndexOutOfBoundsException e) {
            System.out.println("there is no campaign 3");
        }
    }

    /** Twenty bytes a call, four in each number; spaces fill the last call up. */
    private static void feed(AdMarketplace x, String text) {
        int[] fives = new int[5];
        for (int i = 0; i < text.length(); i += 20) {
            for (int k = 0; k < 20; k++) {
                char sign = i + k < text.length() ? text.charAt(i + k) : ' ';
                fives[k / 4] = fives[k / 4] << 8 | sign;
            }
            x.feed(fives[0], fives[1], fives[2], fives[3], fives[4]);
        }
    }

    private static String written(AdMarketplace x, int length) {
        StringBuilder all = new StringBuilder();
        for (int k = 0; k < length; k++) {
            all.append(x.written(k));
        }
        return all.toString();
    }
}
