import java.util.LinkedHashMap;
import java.util.Map;

/** The sentences under ERRORS AND EDITS that name a boundary case, in the order of the document. */
final class ErrorEdgeTest {
    private static final Check CHECK = new Check("ErrorEdgeTest");

    public static void main(String[] args) {
        doesNotExist();
        outOfRange();
        notPossible();
        changesNothing();
        editsAre();
        othersAreNone();
        canBeUndone();
        atMostEight();
        loadForgets();
        CHECK.end();
    }

    /** Whatever else is wrong, and even if the state forbids the call. */
    private static void doesNotExist() {
        CHECK.quote("A campaign, tag, impression or index that does not exist throws IndexOutOfBoundsException; this is checked first.");
        Twins busy = new Twins(CHECK, Busy::grow);
        busy.index("refusal: campaign and user", x -> x.refusal(3, 16, 0));
        busy.index("refusal: tag and user", x -> x.refusal(0, 16, 2));
        busy.index("leastBid: tag, user and slots", x -> x.leastBid(0, -1, 2, 0));
        busy.index("multiplierAfter: tag, slots and ticks", x -> x.multiplierAfter(0, 2, 3, 61));
        busy.index("bestMode: campaign, slots and ticks", x -> x.bestMode(3, 0, 0, 0));
        busy.index("setBudget: campaign and budget", x -> x.setBudget(3, 10000));
        busy.index("impression: impression and part", x -> x.impression(4, 5));
        busy.index("credit: campaign and model", x -> x.credit(-1, 3));
        busy.index("written: behind the last", x -> x.written(Busy.OUTPUT.length()));
        Twins full = new Twins(CHECK, ErrorEdgeTest::fill);
        full.index("request: tag, user, slots, and no room", x -> x.request(16, 1, 5));
        full.index("request: tag, and no room", x -> x.request(0, -1, 1));
    }

    private static void outOfRange() {
        CHECK.quote("A parameter that is out of its range throws IllegalArgumentException; this is checked next.");
        Twins full = new Twins(CHECK, ErrorEdgeTest::fill);
        full.argument("request: user, and no room", x -> x.request(16, 0, 1));
        full.argument("request: slots, and no room", x -> x.request(0, 0, 5));
        full.argument("request: no slots, and no room", x -> x.request(0, 0, 0));
        full.argument("convert: user, and no room", x -> x.convert(-1, 1));
        full.argument("convert: value, and no room", x -> x.convert(0, 10000));
        full.argument("pass: too many, and no time", x -> x.pass(201));
        full.argument("pass: none, and no time", x -> x.pass(0));
        Twins busy = new Twins(CHECK, Busy::grow);
        busy.argument("setBudget: less than the least, and than what is spent", x -> x.setBudget(0, 0));
        busy.argument("setBudget: the smallest number", x -> x.setBudget(0, Integer.MIN_VALUE));
    }

    /** 160 impressions, 40 conversions and tick 9999. */
    private static void fill(AdMarketplace x) {
        Check.load(x, "slots 1 1 1 1;tag t 0;campaign a 9 9999 9 1 any;campaign b 9 9999 9 1 any;campaign c 9 9999 9 1 any;"
            + "campaign d 9 9999 9 1 any;");
        for (int i = 0; i < 40; i++) {
            x.request(i % 16, 0, 4);
            x.convert(i % 16, 5);
        }
        for (int i = 0; i < 49; i++) {
            x.pass(200);
        }
        x.pass(199);
    }

    private static void notPossible() {
        CHECK.quote("What is not possible in the present state throws IllegalStateException.");
        Twins full = new Twins(CHECK, ErrorEdgeTest::fill);
        full.state("request", x -> x.request(0, 0, 1));
        full.state("convert", x -> x.convert(0, 1));
        full.state("pass", x -> x.pass(1));
        Twins busy = new Twins(CHECK, Busy::grow);
        busy.state("pause of a paused one", x -> x.pause(2));
        busy.state("resume of one that is not paused", x -> x.resume(0));
        busy.state("setBudget to less than what is spent", x -> x.setBudget(0, 34));
        busy.changes("setBudget to what is spent", 100, x -> x.setBudget(0, 35));
    }

    /** Many refused calls one behind the other. */
    private static void changesNothing() {
        CHECK.quote("A call that throws an exception changes nothing.");
        Twins busy = new Twins(CHECK, Busy::grow);
        Twins.Question[] calls = {
            x -> x.load(21), x -> x.load(-1), x -> x.request(0, 0, 3), x -> x.pass(201), x -> x.convert(0, 0), x -> x.pause(2),
            x -> x.resume(1), x -> x.setBid(0, 1000), x -> x.setBudget(0, 1), x -> x.setMode(0, 3), x -> x.setFloor(0, 1000),
            x -> x.write(3), x -> x.written(99), x -> x.bestMode(0, 0, 1, 61), x -> x.revenueAfter(0, 3, 1),
        };
        busy.answers("all of them", calls.length, x -> {
            int thrown = 0;
            for (Twins.Question call : calls) {
                thrown += Check.outcome(() -> call.ask(x)).toString().startsWith("throws ") ? 1 : 0;
            }
            return thrown;
        });
    }

    /** Each edit, once with an effect and once without one where that is possible. */
    private static Map<String, Twins.Question> edits() {
        Map<String, Twins.Question> edits = new LinkedHashMap<>();
        edits.put("request", x -> x.request(2, 0, 2));
        edits.put("pass", x -> x.pass(1));
        edits.put("a long pass", x -> x.pass(200));
        edits.put("convert", x -> x.convert(0, 1));
        edits.put("convert for nothing", x -> x.convert(9, 1));
        edits.put("pause", x -> x.pause(0));
        edits.put("resume", x -> x.resume(2));
        edits.put("setBid", x -> x.setBid(0, 21));
        edits.put("setBudget", x -> x.setBudget(0, 101));
        edits.put("setMode", x -> x.setMode(1, 0));
        edits.put("setFloor", x -> x.setFloor(0, 5));
        edits.put("setBid to the same", x -> x.setBid(0, 20));
        edits.put("setBudget to the same", x -> x.setBudget(0, 100));
        edits.put("setMode to the same", x -> x.setMode(0, 1));
        edits.put("setFloor to the same", x -> x.setFloor(0, 4));
        edits.put("a request that fills no slot", x -> x.request(0, 1, 1));
        return edits;
    }

    /** Three edits are remembered, so that one more is seen. */
    private static AdMarketplace young() {
        AdMarketplace x = Busy.grown();
        for (int i = 0; i < 5; i++) {
            x.undo();
        }
        x.pause(2);
        x.setFloor(1, 999);
        return x;
    }

    private static void editsAre() {
        CHECK.quote("Edits are the methods request, pass, convert, pause, resume, setBid, setBudget, setMode and setFloor.");
        CHECK.due("without one more", 4, young().undo());
        for (Map.Entry<String, Twins.Question> edit : edits().entrySet()) {
            AdMarketplace x = young();
            Object answer = Check.outcome(() -> edit.getValue().ask(x));
            CHECK.due(edit.getKey() + " succeeds", true, answer instanceof Integer);
            CHECK.due("behind " + edit.getKey(), 5, x.undo());
        }
    }

    private static void othersAreNone() {
        AdMarketplace x = young();
        x.write(0);
        x.feed(0, 0, 0, 0, 0);
        CHECK.due("a text that is not legal", -3, x.load(20));
        x.revenueAfter(0, 2, 60);
        x.bestMode(0, 0, 2, 60);
        x.leastBid(0, 0, 0, 1);
        x.bestFloor(0, 0, 1);
        CHECK.due("calls that are no edits", 4, x.undo());
        CHECK.due("undo is no edit", 3, x.undo());
    }

    private static void canBeUndone() {
        CHECK.quote("Every successful edit can be undone.");
        Twins old = new Twins(CHECK, x -> {
            Busy.grow(x);
            // A place is left, so that the edit to be undone does not push another one out.
            x.undo();
            x.pause(0);
            x.undo();
        });
        for (Map.Entry<String, Twins.Question> edit : edits().entrySet()) {
            old.answers(edit.getKey() + ", undone", 7, x -> {
                edit.getValue().ask(x);
                return x.undo();
            });
        }
    }

    private static void atMostEight() {
        CHECK.quote("At most 8 edits are remembered.");
        for (int made = 0; made <= 20; made++) {
            AdMarketplace x = Check.open("campaign a 100 90 9 9 any;");
            for (int i = 1; i <= made; i++) {
                x.setBid(0, 100 + i);
            }
            int kept = Math.min(made, 8);
            for (int left = kept - 1; left >= 0; left--) {
                CHECK.due("undo of " + made + " edits", left, x.undo());
                CHECK.due("the bid then", 100 + made - kept + left, x.bid(0));
            }
            CHECK.due("none is left of " + made + " edits", -1, x.undo());
            CHECK.due("the bid stays", 100 + made - kept, x.bid(0));
        }
        AdMarketplace y = Check.open("campaign a 100 90 9 9 any;");
        for (int i = 1; i <= 9; i++) {
            y.setBid(0, 100 + i);
        }
        for (int i = 0; i < 8; i++) {
            y.undo();
        }
        y.setBid(0, 50);
        CHECK.due("an edit behind all that was undone", 0, y.undo());
        CHECK.due("the bid before it", 101, y.bid(0));
        CHECK.due("the ninth stays forgotten", -1, y.undo());
    }

    private static void loadForgets() {
        CHECK.quote("A successful load() forgets all edits.");
        AdMarketplace x = Busy.grown();
        CHECK.argument("a load that throws", () -> x.load(Busy.HELD + 1));
        CHECK.due("a load that fails", -3, x.load(Busy.HELD));
        CHECK.due("then all are remembered", 7, x.undo());
        CHECK.due("a load that succeeds", 0, x.load(0));
        CHECK.due("then none is", -1, x.undo());
        CHECK.due("an edit behind it", 3, x.pass(3));
        CHECK.due("is the only one", 0, x.undo());
        CHECK.due("none is left", -1, x.undo());
        CHECK.due("the text stays", 0, x.campaigns());
    }
}
