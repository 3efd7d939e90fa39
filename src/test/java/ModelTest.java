import java.lang.reflect.InvocationTargetException;
import java.lang.reflect.Method;
import java.util.ArrayList;
import java.util.Arrays;
import java.util.Comparator;
import java.util.List;
import java.util.Random;

/** Runs of random calls, the same ones every time, answered by the class and by the Model. */
final class ModelTest {
    private static final int RUNS = 400;
    private static final int TEXTS = 6000;
    private static final int CALLS = 512;
    private static final String EDITS = "request request request request request request request request request request "
        + "request request pass pass pass convert convert pause resume resume setBid setBudget setMode setFloor undo";
    private static final List<String> WORDS = List.of("a", "b", "c", "d", "e", "f", "g", "h", "i", "any", "fast", "even",
        "strict", "slow", "day", "tag", "slots", "campaign", "pace", "apart", "attribute", "abcdefghij", "abcdefghijk");

    private final Check check = new Check("ModelTest");
    private final List<Method> methods = new ArrayList<>();
    private Random random;
    private AdMarketplace x;
    private Model model;
    /** Small numbers make ties and caps likely, large ones use the whole range. */
    private boolean large;
    /** A run that comes to the limits of impressions, conversions and ticks. */
    private boolean crowded;

    public static void main(String[] args) {
        ModelTest test = new ModelTest();
        for (Method m : AdMarketplace.class.getDeclaredMethods()) {
            if (java.lang.reflect.Modifier.isPublic(m.getModifiers())) {
                test.methods.add(m);
            }
        }
        // The machine lists methods in no fixed order.
        test.methods.sort(Comparator.comparing(Method::getName));
        for (int run = 0; run < RUNS; run++) {
            test.run(run);
        }
        test.texts();
        test.check.end();
    }

    private void run(int seed) {
        random = new Random(seed);
        large = seed % 3 == 0;
        crowded = seed % 5 == 0;
        x = new AdMarketplace();
        model = new Model();
        List<String> trace = new ArrayList<>();
        if (seed % 50 != 0) {
            load(legalText(), trace);
        }
        while (trace.size() < CALLS) {
            int dice = random.nextInt(300);
            if (dice == 0) {
                load(legalText(), trace);
            } else if (dice == 1) {
                load(spoilt(legalText()), trace);
            } else {
                Method m = dice < (crowded ? 220 : 130) ? named(EDITS.split(" ")[random.nextInt(25)])
                    : methods.get(random.nextInt(methods.size()));
                boolean textCall = m.getName().equals("feed") || m.getName().equals("load");
                // What these leave in the buffer spoils the next text, so they are rarer than the others.
                if (textCall && random.nextInt(20) > 0) {
                    continue;
                }
                if (!call(m, arguments(m), trace)) {
                    return;
                }
            }
        }
    }

    private void texts() {
        random = new Random(77);
        for (int i = 0; i < TEXTS; i++) {
            x = new AdMarketplace();
            model = new Model();
            large = random.nextBoolean();
            String text = i % 4 == 0 ? soup() : spoilt(legalText());
            List<String> trace = new ArrayList<>();
            load(text.length() > 600 ? text.substring(0, 600) : text, trace);
            for (String name : List.of("errorKind", "errorPosition", "campaigns", "tags", "slots")) {
                call(named(name), new Object[0], trace);
            }
        }
    }

    private void load(String text, List<String> trace) {
        String cut = text.length() > 600 ? "" : text;
        for (int i = 0; i < cut.length(); i += 20) {
            Object[] words = new Object[5];
            for (int w = 0; w < 5; w++) {
                int word = 0;
                for (int k = i + 4 * w; k < i + 4 * w + 4; k++) {
                    word = word << 8 | (k < cut.length() ? cut.charAt(k) & 255 : 32);
                }
                words[w] = word;
            }
            call(named("feed"), words, trace);
        }
        trace.add("(that was: " + cut + ")");
        call(named("load"), new Object[] {cut.length()}, trace);
    }

    private Method named(String name) {
        return methods.stream().filter(m -> m.getName().equals(name)).findFirst().orElseThrow();
    }

    /** Answers whether both gave the same answer. */
    private boolean call(Method m, Object[] arguments, List<String> trace) {
        Object want;
        Object got;
        try {
            want = outcome(Model.class.getDeclaredMethod(m.getName(), m.getParameterTypes()), model, arguments);
            got = outcome(m, x, arguments);
        } catch (ReflectiveOperationException e) {
            throw new AssertionError(e);
        }
        trace.add(m.getName() + Arrays.toString(arguments) + " -> " + want);
        if (want.equals(got)) {
            check.due(m.getName(), want, got);
            return true;
        }
        check.due(m.getName() + Arrays.toString(arguments) + " behind\n  " + String.join("\n  ", trace) + "\n", want, got);
        return false;
    }

    private static Object outcome(Method m, Object target, Object[] arguments) throws ReflectiveOperationException {
        try {
            return m.invoke(target, arguments);
        } catch (InvocationTargetException e) {
            return "throws " + e.getCause().getClass().getSimpleName();
        }
    }

    private Object[] arguments(Method m) {
        String roles = switch (m.getName()) {
            case "feed" -> "wwwww";
            case "load" -> "l";
            case "floor" -> "t";
            case "bid", "effectiveBid", "multiplier", "budget", "spent", "plan", "mode", "pause", "resume", "reach",
                "frequency", "write" -> "c";
            case "refusal" -> "cut";
            case "ranked" -> "utp";
            case "winner", "price" -> "utz";
            case "leastBid" -> "cuts";
            case "bestFloor", "request" -> "uts";
            case "revenueAfter" -> "tsn";
            case "multiplierAfter", "bestMode" -> "ctsn";
            case "pass" -> crowded ? "N" : "n";
            case "convert" -> "uv";
            case "setBid" -> "cv";
            case "setBudget" -> "cb";
            case "setMode", "credit" -> "cm";
            case "setFloor" -> "tf";
            case "impression" -> "ip";
            case "recent" -> "cu";
            case "meanPrice" -> "z";
            case "written" -> "k";
            default -> "";
        };
        Object[] result = new Object[roles.length()];
        for (int i = 0; i < result.length; i++) {
            result[i] = argument(roles.charAt(i));
        }
        return result;
    }

    private int argument(char role) {
        if (random.nextInt(60) == 0) {
            int[] odd = {-1, 0, 16, 61, 999, 1000, 9999, 10000, 200, 201, Integer.MIN_VALUE, Integer.MAX_VALUE};
            return odd[random.nextInt(odd.length)];
        }
        return switch (role) {
            case 'w' -> random.nextInt();
            case 'l' -> random.nextInt(30);
            case 't' -> random.nextInt(Math.max(1, model.tags()));
            case 'c' -> random.nextInt(Math.max(1, model.campaigns()));
            case 'u' -> random.nextInt(5) == 0 ? random.nextInt(16) : random.nextInt(2);
            case 'p' -> random.nextInt(5);
            case 'z' -> random.nextInt(model.slots());
            case 's' -> 1 + random.nextInt(model.slots());
            case 'n' -> 1 + random.nextInt(random.nextInt(4) == 0 ? 60 : 3);
            case 'N' -> 150 + random.nextInt(51);
            case 'v' -> 1 + random.nextInt(large ? 999 : 40);
            case 'b' -> 1 + random.nextInt(large ? 9999 : 400);
            case 'f' -> random.nextInt(large ? 700 : 20);
            case 'm' -> random.nextInt(3);
            case 'i' -> random.nextInt(Math.max(1, model.impressions()));
            default -> random.nextInt(45);
        };
    }

    private int upTo(int most) {
        return 1 + random.nextInt(most);
    }

    private String legalText() {
        StringBuilder s = new StringBuilder();
        if (random.nextInt(5) > 0) {
            s.append("day ").append(upTo(large ? 200 : 12)).append("; ");
        }
        if (random.nextInt(5) > 0) {
            s.append("attribute ").append(upTo(large ? 99 : 9)).append(";\n");
        }
        if (random.nextInt(5) > 0) {
            s.append("slots");
            int most = 100;
            for (int i = upTo(4); i > 0; i--) {
                most = random.nextInt(3) == 0 ? most : upTo(most);
                s.append(' ').append(most);
            }
            s.append(';');
        }
        int tags = random.nextInt(12) == 0 ? 6 : upTo(2);
        for (int i = 0; i < tags; i++) {
            s.append("tag ").append((char) ('a' + i)).append(' ').append(random.nextInt(large ? 300 : 15)).append(';');
        }
        int campaigns = upTo(8);
        for (int i = 0; i < campaigns; i++) {
            s.append("campaign ").append((char) ('a' + i)).append(' ').append(upTo(large ? 999 : 30)).append(' ')
                .append(upTo(large ? 9999 : 300)).append(' ').append(upTo(random.nextBoolean() ? 2 : 9)).append(' ')
                .append(upTo(large ? 200 : 12)).append(' ')
                .append(random.nextInt(4) > 0 ? "any" : String.valueOf((char) ('a' + random.nextInt(tags)))).append(';');
        }
        for (int i = random.nextInt(5); i > 0; i--) {
            s.append("pace ").append((char) ('a' + random.nextInt(campaigns))).append(' ')
                .append(List.of("fast", "even", "strict").get(random.nextInt(3))).append(';');
        }
        for (int i = random.nextInt(5); i > 0 && campaigns > 1; i--) {
            int first = random.nextInt(campaigns);
            int second = (first + upTo(campaigns - 1)) % campaigns;
            s.append("apart ").append((char) ('a' + first)).append(' ').append((char) ('a' + second)).append(';');
        }
        return s.toString();
    }

    /** A legal text with a few tokens or bytes changed, taken away or added. */
    private String spoilt(String text) {
        List<String> tokens = new ArrayList<>(Arrays.asList(text.split("(?<=[ ;\n])|(?=[ ;\n])")));
        for (int i = random.nextInt(3); i >= 0; i--) {
            int at = random.nextInt(tokens.size());
            switch (random.nextInt(4)) {
                case 0 -> tokens.set(at, token());
                case 1 -> tokens.set(at, "");
                case 2 -> tokens.add(at, " " + token() + " ");
                default -> tokens.add(at, tokens.get(random.nextInt(tokens.size())));
            }
        }
        String result = String.join("", tokens);
        return random.nextInt(8) == 0 ? result.substring(0, random.nextInt(result.length() + 1)) : result;
    }

    /** Tokens in the order of a statement now and then, and any order else. */
    private String soup() {
        StringBuilder s = new StringBuilder();
        for (int i = upTo(25); i > 0; i--) {
            switch (random.nextInt(6)) {
                case 0 -> s.append("tag ").append(token()).append(' ').append(random.nextInt(1010)).append(';');
                case 1 -> s.append("slots 9 9 ").append(token()).append(' ').append(token()).append(';');
                case 2 -> s.append("campaign ").append(token()).append(" 1 1 1 1 any;");
                case 3 -> s.append("apart a ").append(token()).append(';');
                case 4 -> s.append("slots 9 9 9 9 ").append(random.nextInt(12)).append(";");
                default -> s.append(' ').append(random.nextInt(4) == 0 ? token() : ";".repeat(random.nextInt(2)));
            }
        }
        return s.toString();
    }

    private String token() {
        return switch (random.nextInt(6)) {
            case 0 -> String.valueOf(random.nextInt(random.nextBoolean() ? 11000 : 110));
            case 1 -> ";";
            case 2 -> String.valueOf((char) random.nextInt(256));
            case 3 -> "00" + random.nextInt(100);
            default -> WORDS.get(random.nextInt(WORDS.size()));
        };
    }
}
