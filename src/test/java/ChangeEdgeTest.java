/** The sentences of promises 27 to 36 that name a boundary case, in the order of the document. */
final class ChangeEdgeTest {
    private static final Check CHECK = new Check("ChangeEdgeTest");

    public static void main(String[] args) {
        requestSlots();
        requestFull();
        requestFullForNothing();
        passRange();
        passLimit();
        convertRange();
        convertAnswer();
        convertFull();
        pause();
        resume();
        setBid();
        setBudget();
        setBudgetSpent();
        setMode();
        setFloor();
        undo();
        CHECK.end();
    }

    private static void requestSlots() {
        CHECK.quote("Returns the number of slots that are filled.");
        Twins open = new Twins(CHECK, x -> Check.load(x, "slots 100 100 100;tag t 5;tag u 6;campaign a 5 90 9 9 any;campaign b 5 90 9 9 any;"));
        open.changes("one slot", 1, x -> x.request(0, 0, 1));
        open.changes("two slots", 2, x -> x.request(15, 0, 2));
        open.changes("three slots", 2, x -> x.request(0, 0, 3));
        open.changes("none is filled, which is an edit", 0, x -> x.request(0, 1, 3));
        open.argument("no slot", x -> x.request(0, 0, 0));
        open.argument("four slots", x -> x.request(0, 0, 4));
        open.argument("user -1", x -> x.request(-1, 0, 1));
        open.argument("user 16", x -> x.request(16, 0, 1));
        open.index("tag 2", x -> x.request(0, 2, 1));
        open.index("tag -1", x -> x.request(0, -1, 1));
    }

    /** So many impressions, all in one tick. */
    private static Twins.Past shown(int impressions) {
        return x -> {
            Check.load(x, "slots 100 100 100 100;tag t 1;campaign a 1 9999 9 1 any;campaign b 1 9999 9 1 any;"
                + "campaign c 1 9999 9 1 any;campaign d 1 9999 9 1 any;");
            for (int i = 0; i < impressions / 4; i++) {
                x.request(i % 16, 0, 4);
            }
            for (int i = 0; i < impressions % 4; i++) {
                x.request(15, 0, 1);
            }
        };
    }

    private static void requestFull() {
        CHECK.quote("Throws `IllegalStateException` if the number of impressions plus slots is greater than 160");
        for (int free = 0; free <= 4; free++) {
            Twins nearly = new Twins(CHECK, shown(160 - free));
            nearly.answers("impressions", 160 - free, x -> x.impressions());
            for (int slots = 1; slots <= 4; slots++) {
                int wanted = slots;
                String what = slots + " slots when there is room for " + free;
                if (slots <= free) {
                    nearly.changes(what, slots, x -> x.request(14, 0, wanted));
                } else {
                    nearly.state(what, x -> x.request(14, 0, wanted));
                }
            }
        }
        AdMarketplace x = new AdMarketplace();
        shown(156).on(x);
        CHECK.due("the last four", 4, x.request(14, 0, 4));
        CHECK.due("160 impressions", 160, x.impressions());
        CHECK.due("the last one's slot", 3, x.impression(159, 3));
        CHECK.index("no impression behind it", () -> x.impression(160, 0));
        CHECK.due("revenue", 160, x.revenue());
        x.undo();
        CHECK.due("room again", 4, x.request(13, 0, 4));
    }

    /** What counts is the number of slots, not of those that would be filled. */
    private static void requestFullForNothing() {
        Twins nearly = new Twins(CHECK, x -> {
            shown(157).on(x);
            x.setFloor(0, 2);
        });
        nearly.state("four slots, of which none would be filled", x -> x.request(0, 0, 4));
        nearly.changes("three slots, of which none is filled", 0, x -> x.request(0, 0, 3));
    }

    private static void passRange() {
        CHECK.quote("- `ticks`: 1 to 200");
        Twins busy = new Twins(CHECK, Busy::grow);
        busy.argument("none", x -> x.pass(0));
        busy.argument("201", x -> x.pass(201));
        busy.argument("-1", x -> x.pass(-1));
        busy.changes("1", 2, x -> x.pass(1));
        busy.changes("200", 201, x -> x.pass(200));
    }

    private static Twins.Past passed(int ticks) {
        return x -> {
            Check.load(x, "day 999;tag t 1;campaign a 1 9999 9 1 any;pace a even;");
            for (int left = ticks; left > 0; left -= 200) {
                x.pass(Math.min(left, 200));
            }
        };
    }

    private static void passLimit() {
        CHECK.quote("Throws `IllegalStateException` if the present tick would be greater than 9999");
        Twins last = new Twins(CHECK, passed(9999));
        last.answers("the last tick", 9999, x -> x.tick());
        last.state("one more", x -> x.pass(1));
        last.state("200 more", x -> x.pass(200));
        last.changes("a request is still taken", 1, x -> x.request(0, 0, 1));
        Twins near = new Twins(CHECK, passed(9799));
        near.changes("200 more", 9999, x -> x.pass(200));
        Twins nearer = new Twins(CHECK, passed(9800));
        nearer.state("200 more", x -> x.pass(200));
        nearer.changes("199 more", 9999, x -> x.pass(199));
        Twins nearest = new Twins(CHECK, passed(9998));
        nearest.changes("one more", 9999, x -> x.pass(1));
        nearest.state("two more", x -> x.pass(2));
    }

    private static void convertRange() {
        CHECK.quote("- `value`: 1 to 9999");
        Twins busy = new Twins(CHECK, Busy::grow);
        busy.argument("0", x -> x.convert(0, 0));
        busy.argument("10000", x -> x.convert(0, 10000));
        busy.argument("user 16", x -> x.convert(16, 1));
        busy.argument("user -1", x -> x.convert(-1, 1));
        busy.changes("1", 1, x -> x.convert(0, 1));
        busy.changes("9999", 0, x -> x.convert(15, 9999));
    }

    private static void convertAnswer() {
        CHECK.quote("Returns the campaign of the impression to which it is attributed by the model last; NONE if there is none.");
        Twins busy = new Twins(CHECK, Busy::grow);
        busy.changes("the last slot of a request", 1, x -> x.convert(0, 1));
        busy.changes("the only slot of a request", 0, x -> x.convert(1, 1));
        busy.changes("no impression", -1, x -> x.convert(2, 1));
    }

    private static Twins.Past converted(int count) {
        return x -> {
            Check.load(x, "tag t 1;campaign a 1 9999 9 1 any;");
            x.request(0, 0, 1);
            for (int i = 0; i < count; i++) {
                x.convert(i % 2, 9999);
            }
        };
    }

    private static void convertFull() {
        CHECK.quote("Throws `IllegalStateException` if there are 40 conversions");
        Twins nearly = new Twins(CHECK, converted(39));
        nearly.changes("the fortieth", 0, x -> x.convert(0, 9999));
        Twins full = new Twins(CHECK, converted(40));
        full.answers("conversions", 40, x -> x.conversions());
        full.answers("credit of all", 20 * 9999.0, x -> x.credit(0, 2));
        full.answers("unattributed", 20 * 9999, x -> x.unattributed());
        full.state("one more", x -> x.convert(0, 1));
        full.state("one more for nothing", x -> x.convert(1, 1));
        full.changes("undone, there is room again", 0, x -> {
            x.undo();
            return x.convert(0, 9998);
        });
    }

    private static void pause() {
        CHECK.quote("Throws `IllegalStateException` if it is paused");
        Twins busy = new Twins(CHECK, Busy::grow);
        busy.state("paused already", x -> x.pause(2));
        busy.index("campaign 3", x -> x.pause(3));
        busy.index("campaign -1", x -> x.pause(-1));
        CHECK.quote("Returns its budget minus what it has spent.");
        busy.changes("something is left", 65, x -> x.pause(0));
        busy.changes("the last of the budget is spent", 0, x -> {
            x.setBudget(0, 35);
            return x.pause(0);
        });
        AdMarketplace y = Check.open("campaign a 1 9999 1 1 any;");
        CHECK.due("nothing is spent", 9999, y.pause(0));
    }

    private static void resume() {
        CHECK.quote("Throws `IllegalStateException` if it is not paused");
        Twins busy = new Twins(CHECK, Busy::grow);
        busy.state("never paused", x -> x.resume(0));
        busy.index("campaign 3", x -> x.resume(3));
        busy.changes("paused", 80, x -> x.resume(2));
        Twins resumed = new Twins(CHECK, x -> {
            Busy.grow(x);
            x.resume(2);
        });
        resumed.state("resumed already", x -> x.resume(2));
        Twins undone = new Twins(CHECK, x -> {
            Busy.grow(x);
            x.pause(0);
            x.undo();
        });
        undone.state("the pause was undone", x -> x.resume(0));
        undone.changes("then it can be paused", 65, x -> x.pause(0));
    }

    private static void setBid() {
        CHECK.quote("- `bid`: 1 to 999");
        Twins busy = new Twins(CHECK, Busy::grow);
        busy.argument("0", x -> x.setBid(0, 0));
        busy.argument("1000", x -> x.setBid(0, 1000));
        busy.index("campaign 3", x -> x.setBid(3, 1));
        busy.changes("1", 20, x -> x.setBid(0, 1));
        busy.changes("999", 20, x -> x.setBid(0, 999));
        CHECK.quote("Returns the previous bid.");
        busy.changes("set once before", 16, x -> x.setBid(1, 999));
        busy.changes("more than the budget, which is no fault", 10, x -> x.setBid(2, 81));
    }

    private static void setBudget() {
        CHECK.quote("- `budget`: 1 to 9999");
        Twins busy = new Twins(CHECK, Busy::grow);
        busy.argument("0", x -> x.setBudget(2, 0));
        busy.argument("10000", x -> x.setBudget(2, 10000));
        busy.index("campaign 3", x -> x.setBudget(3, 1));
        busy.changes("1", 80, x -> x.setBudget(2, 1));
        busy.changes("9999", 80, x -> x.setBudget(2, 9999));
        CHECK.quote("Returns the previous budget.");
        busy.changes("set once before", 95, x -> x.setBudget(1, 9999));
    }

    private static void setBudgetSpent() {
        CHECK.quote("Throws `IllegalStateException` if the campaign has spent more than that");
        Twins busy = new Twins(CHECK, Busy::grow);
        busy.state("one less than is spent", x -> x.setBudget(0, 34));
        busy.state("the least", x -> x.setBudget(0, 1));
        busy.changes("what is spent", 100, x -> x.setBudget(0, 35));
        busy.changes("one more than is spent", 100, x -> x.setBudget(0, 36));
        busy.changes("nothing is spent on the next day", 100, x -> {
            x.pass(9);
            return x.setBudget(0, 1);
        });
    }

    private static void setMode() {
        CHECK.quote("Sets the mode of a campaign; its multiplier becomes 100.");
        Twins busy = new Twins(CHECK, Busy::grow);
        busy.argument("-1", x -> x.setMode(0, -1));
        busy.argument("3", x -> x.setMode(0, 3));
        busy.index("campaign 3", x -> x.setMode(3, 0));
        for (int mode = 0; mode <= 2; mode++) {
            AdMarketplace x = Busy.grown();
            CHECK.due("the multiplier before", 90, x.multiplier(0));
            CHECK.due("the mode before", 1, x.setMode(0, mode));
            CHECK.due("the mode", mode, x.mode(0));
            CHECK.due("the multiplier", 100, x.multiplier(0));
            CHECK.due("the effective bid", 20, x.effectiveBid(0));
            CHECK.due("another one's mode", 2, x.mode(1));
            x.undo();
            CHECK.due("undone", 90, x.multiplier(0));
        }
    }

    private static void setFloor() {
        CHECK.quote("- `floor`: 0 to 999");
        Twins busy = new Twins(CHECK, Busy::grow);
        busy.argument("-1", x -> x.setFloor(0, -1));
        busy.argument("1000", x -> x.setFloor(0, 1000));
        busy.index("tag 2", x -> x.setFloor(2, 0));
        busy.changes("0", 4, x -> x.setFloor(0, 0));
        busy.changes("999", 4, x -> x.setFloor(0, 999));
        CHECK.quote("Returns the previous floor.");
        busy.changes("set once before", 3, x -> x.setFloor(1, 0));
    }

    private static void undo() {
        CHECK.quote("Undoes the latest edit that is not undone yet. @return the number of edits that can still be undone; NONE if there is none");
        Twins none = new Twins(CHECK, x -> {
            Busy.grow(x);
            for (int i = 0; i < 8; i++) {
                x.undo();
            }
        });
        none.answers("none is left", -1, x -> x.undo());
        none.answers("none is left, asked again", -1, x -> {
            x.undo();
            x.undo();
            return x.undo();
        });
        none.answers("an edit and its undo", 0, x -> {
            x.pass(1);
            return x.undo();
        });
        AdMarketplace x = Check.open("tag t 1;campaign a 1 9 9 9 any;");
        x.setBid(0, 2);
        x.setFloor(0, 2);
        x.setBudget(0, 8);
        CHECK.due("the latest one", 2, x.undo());
        CHECK.due("the budget", 9, x.budget(0));
        CHECK.due("the floor stays", 2, x.floor(0));
        CHECK.due("the one before it", 1, x.undo());
        CHECK.due("the floor", 1, x.floor(0));
        CHECK.due("the bid stays", 2, x.bid(0));
        x.pause(0);
        CHECK.due("a new one", 1, x.undo());
        CHECK.due("the first one", 0, x.undo());
        CHECK.due("the bid", 1, x.bid(0));
        CHECK.due("none", -1, x.undo());
    }
}
