import java.util.Objects;

/** Counts right and wrong answers of one test class. */
final class Check {
    /** A call of the class under test. */
    interface Call {
        Object run();
    }

    private final String name;
    /** The sentence of the document that the answers are about. */
    private String quoted = "";
    private int right = 0;
    private int wrong = 0;

    Check(String name) {
        this.name = name;
    }

    /** Numbers of different types are told apart, so that an int is never taken for a double. */
    void due(String what, Object want, Object got) {
        if (Objects.equals(want, got)) {
            right++;
        } else {
            wrong++;
            System.out.println(name + ": " + quoted + what + " answered " + got + ", due is " + want);
        }
    }

    /** The answers from here on are what this sentence of the document asks for; it must stand there as it is quoted. */
    void quote(String sentence) {
        quoted = "";
        due("the document has '" + sentence + "'", true, Document.says(sentence));
        quoted = "'" + sentence + "' ";
    }

    void legal(String text, int campaigns) {
        AdMarketplace x = new AdMarketplace();
        due("load of '" + text + "'", campaigns, load(x, text));
        due("kind of '" + text + "'", 0, x.errorKind());
        due("position of '" + text + "'", -1, x.errorPosition());
    }

    void bad(String text, int kind, int position) {
        AdMarketplace x = new AdMarketplace();
        due("load of '" + text + "'", -3, load(x, text));
        due("kind of '" + text + "'", kind, x.errorKind());
        due("position of '" + text + "'", position, x.errorPosition());
    }

    void index(String what, Call call) {
        due(what, "throws IndexOutOfBoundsException", outcome(call));
    }

    void argument(String what, Call call) {
        due(what, "throws IllegalArgumentException", outcome(call));
    }

    void state(String what, Call call) {
        due(what, "throws IllegalStateException", outcome(call));
    }

    /** The answer of a call, or the exact class of what it throws: a subclass is what the machine throws. */
    static Object outcome(Call call) {
        try {
            return call.run();
        } catch (RuntimeException e) {
            return "throws " + e.getClass().getSimpleName();
        }
    }

    void end() {
        System.out.println(name + ": " + right + " right, " + wrong + " wrong");
        if (wrong > 0 || right == 0) {
            System.exit(1);
        }
    }

    /** Appends the bytes of a text to the buffer, with spaces behind it up to a whole feed. */
    static void feed(AdMarketplace x, String text) {
        for (int i = 0; i < text.length(); i += 20) {
            x.feed(four(text, i), four(text, i + 4), four(text, i + 8), four(text, i + 12), four(text, i + 16));
        }
    }

    private static int four(String text, int from) {
        int word = 0;
        for (int i = from; i < from + 4; i++) {
            word = word << 8 | (i < text.length() ? text.charAt(i) & 255 : ' ');
        }
        return word;
    }

    static int load(AdMarketplace x, String text) {
        feed(x, text);
        return x.load(text.length());
    }

    static AdMarketplace open(String text) {
        AdMarketplace x = new AdMarketplace();
        if (load(x, text) < 0) {
            throw new AssertionError("a test's text is not legal: " + text + " (" + x.errorKind() + " at " + x.errorPosition() + ")");
        }
        return x;
    }

    /** All characters of the output. */
    static String output(AdMarketplace x, int length) {
        StringBuilder all = new StringBuilder();
        for (int i = 0; i < length; i++) {
            all.append(x.written(i));
        }
        return all.toString();
    }
}
