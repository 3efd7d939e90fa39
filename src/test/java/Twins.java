/**
 * Objects with the same past, of which one is asked a call more. If that call changes nothing, all that can be asked
 * behind it is answered as without it: what the exchange tells, what the output has, what is undone step by step, and
 * what is in the buffer.
 */
final class Twins {
    /** The calls that make an object what it is before the call that is tested. */
    interface Past {
        void on(AdMarketplace x);
    }

    /** The call that is tested. */
    interface Question {
        Object ask(AdMarketplace x);
    }

    private static final int SPACES = 0x20202020;

    private final Check check;
    private final Past past;
    private final String unasked;

    Twins(Check check, Past past) {
        this.check = check;
        this.past = past;
        unasked = everything(grown());
    }

    private AdMarketplace grown() {
        AdMarketplace x = new AdMarketplace();
        past.on(x);
        return x;
    }

    /** The call gives this answer, and nothing has changed behind it. */
    void answers(String what, Object want, Question question) {
        AdMarketplace x = grown();
        check.due(what, want, Check.outcome(() -> question.ask(x)));
        check.due(what + ", and what comes behind it,", unasked, everything(x));
    }

    void index(String what, Question question) {
        answers(what, "throws IndexOutOfBoundsException", question);
    }

    void argument(String what, Question question) {
        answers(what, "throws IllegalArgumentException", question);
    }

    void state(String what, Question question) {
        answers(what, "throws IllegalStateException", question);
    }

    /** The call is no refused one: what can be asked behind it is answered in another way than without it. */
    void changes(String what, Object want, Question question) {
        AdMarketplace x = grown();
        check.due(what, want, Check.outcome(() -> question.ask(x)));
        check.due(what + ": something has changed", false, unasked.equals(everything(x)));
    }

    /** Some 350 calls for four campaigns and eight edits: a past of 150 calls stays within the 512 that are promised. */
    private static String everything(AdMarketplace x) {
        StringBuilder s = new StringBuilder();
        int campaigns = x.campaigns();
        int slots = x.slots();
        int impressions = x.impressions();
        add(s, x.errorKind(), x.errorPosition(), slots, x.revenue(), x.topUser(), x.unattributed());
        market(s, x);
        for (int c = 0; c < campaigns; c++) {
            add(s, x.plan(c), x.effectiveBid(c), x.recent(c, 0), x.recent(c, 15), x.reach(c), x.frequency(c));
            add(s, x.credit(c, 0), x.credit(c, 1), x.credit(c, 2));
        }
        for (int slot = 0; slot < slots; slot++) {
            add(s, x.meanPrice(slot));
        }
        for (int i = Math.max(0, impressions - 4); i < impressions; i++) {
            add(s, x.impression(i, 0), x.impression(i, 1), x.impression(i, 2), x.impression(i, 3), x.impression(i, 4));
        }
        output(s, x);
        for (int left = x.undo(); left >= 0; left = x.undo()) {
            s.append("\nundone, ").append(left).append(" left:");
            market(s, x);
        }
        buffer(s, x);
        return s.toString();
    }

    /** What edits change. */
    private static void market(StringBuilder s, AdMarketplace x) {
        int campaigns = x.campaigns();
        int tags = x.tags();
        add(s, campaigns, tags, x.tick(), x.impressions(), x.conversions());
        for (int tag = 0; tag < tags; tag++) {
            add(s, x.floor(tag));
        }
        for (int c = 0; c < campaigns; c++) {
            add(s, x.bid(c), x.budget(c), x.spent(c), x.multiplier(c), x.mode(c));
            if (tags > 0) {
                add(s, x.refusal(c, 0, 0));
            }
        }
    }

    private static void output(StringBuilder s, AdMarketplace x) {
        s.append(" output:");
        for (int k = 0; k < 100; k++) {
            int at = k;
            Object answer = Check.outcome(() -> x.written(at));
            if (!(answer instanceof Character)) {
                return;
            }
            s.append(answer);
        }
    }

    private static void buffer(StringBuilder s, AdMarketplace x) {
        int held = x.feed(SPACES, SPACES, SPACES, SPACES, SPACES);
        s.append("\nbuffer:");
        add(s, held, x.load(held == AdMarketplace.FULL ? 600 : held), x.errorKind(), x.errorPosition());
        add(s, x.campaigns(), x.tags(), x.slots());
    }

    private static void add(StringBuilder s, Object... answers) {
        for (Object answer : answers) {
            s.append(' ').append(answer);
        }
    }
}
