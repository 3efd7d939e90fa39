import java.lang.reflect.InvocationTargetException;
import java.lang.reflect.Method;
import java.lang.reflect.Modifier;
import java.util.Arrays;
import java.util.Map;
import java.util.TreeMap;

/**
 * Every parameter of every call: its least and its greatest value are taken, the one before and the one behind them are
 * refused, and a refused call leaves nothing behind. This is asked of a new object, of one with a past and of a full one.
 */
final class RangeEdgeTest {
    private static final Check CHECK = new Check("RangeEdgeTest");
    private static final String INDEX = "throws IndexOutOfBoundsException";
    private static final String ARGUMENT = "throws IllegalArgumentException";

    /**
     * The parameters of each call, a letter each: c campaign, t tag, i impression, k index of the output; u user, p place,
     * z slot, s slots, n ticks tried ahead, N ticks that pass, v value, B bid, b budget, m mode or model, f floor, w part,
     * l length.
     */
    private static final Map<String, String> PARAMETERS = new TreeMap<>(Map.ofEntries(
        Map.entry("load", "l"), Map.entry("floor", "t"), Map.entry("bid", "c"), Map.entry("effectiveBid", "c"),
        Map.entry("multiplier", "c"), Map.entry("budget", "c"), Map.entry("spent", "c"), Map.entry("plan", "c"),
        Map.entry("mode", "c"), Map.entry("refusal", "cut"), Map.entry("ranked", "utp"), Map.entry("winner", "utz"),
        Map.entry("price", "utz"), Map.entry("leastBid", "cuts"), Map.entry("bestFloor", "uts"),
        Map.entry("revenueAfter", "tsn"), Map.entry("multiplierAfter", "ctsn"), Map.entry("bestMode", "ctsn"),
        Map.entry("request", "uts"), Map.entry("pass", "N"), Map.entry("convert", "uv"), Map.entry("pause", "c"),
        Map.entry("resume", "c"), Map.entry("setBid", "cB"), Map.entry("setBudget", "cb"), Map.entry("setMode", "cm"),
        Map.entry("setFloor", "tf"), Map.entry("impression", "iw"), Map.entry("reach", "c"), Map.entry("frequency", "c"),
        Map.entry("recent", "cu"), Map.entry("meanPrice", "z"), Map.entry("credit", "cm"), Map.entry("write", "c"),
        Map.entry("written", "k")));

    /** How many campaigns, tags, factors, impressions, characters of output and bytes in the buffer there are. */
    private final int campaigns;
    private final int tags;
    private final int slots;
    private final int impressions;
    private final int characters;
    private final int held;
    private final String name;
    private final Twins.Past past;
    private final Twins twins;

    private RangeEdgeTest(String name, Twins.Past past, int... counts) {
        this.name = name;
        this.past = past;
        campaigns = counts[0];
        tags = counts[1];
        slots = counts[2];
        impressions = counts[3];
        characters = counts[4];
        held = counts[5];
        twins = new Twins(CHECK, past);
    }

    public static void main(String[] args) {
        CHECK.quote("A call that throws an exception changes nothing.");
        complete();
        new RangeEdgeTest("a new object", x -> { }, 0, 0, 1, 0, 0, 0).all();
        new RangeEdgeTest("a busy object", Busy::grow, Busy.CAMPAIGNS, Busy.TAGS, Busy.SLOTS, Busy.IMPRESSIONS,
            Busy.OUTPUT.length(), Busy.HELD).all();
        new RangeEdgeTest("a full object", RangeEdgeTest::fill, 8, 6, 4, 2, 28, 600).all();
        CHECK.end();
    }

    /** Every call with parameters but feed, which takes any numbers. */
    private static void complete() {
        for (Method m : AdMarketplace.class.getDeclaredMethods()) {
            if (Modifier.isPublic(m.getModifiers()) && m.getParameterCount() > 0 && !m.getName().equals("feed")) {
                String roles = PARAMETERS.getOrDefault(m.getName(), "");
                CHECK.due("parameters known of " + m.getName(), m.getParameterCount(), roles.length());
            }
        }
    }

    private static void fill(AdMarketplace x) {
        StringBuilder text = new StringBuilder("slots 100 100 1 1;");
        for (int i = 0; i < 6; i++) {
            text.append("tag ").append((char) ('a' + i)).append(" 0;");
        }
        for (int i = 0; i < 8; i++) {
            text.append("campaign ").append((char) ('a' + i)).append(" 9 99 9 9 any;");
        }
        Check.load(x, text.toString());
        x.request(0, 5, 2);
        x.pause(7);
        x.write(0);
        Check.feed(x, "tag z 9;day 5;oops".repeat(40).substring(0, 600));
    }

    private void all() {
        for (Map.Entry<String, String> call : PARAMETERS.entrySet()) {
            String roles = call.getValue();
            if (anyMissing(roles)) {
                missing(call.getKey(), roles);
                continue;
            }
            for (int at = 0; at < roles.length(); at++) {
                taken(call.getKey(), roles, at);
                refused(call.getKey(), roles, at);
                checkedFirst(call.getKey(), roles, at);
            }
        }
    }

    private static boolean isIndex(char role) {
        return "ctik".indexOf(role) >= 0;
    }

    private int least(char role) {
        return "snNvBb".indexOf(role) >= 0 ? 1 : 0;
    }

    private int greatest(char role) {
        return switch (role) {
            case 'c' -> campaigns - 1;
            case 't' -> tags - 1;
            case 'i' -> impressions - 1;
            case 'k' -> characters - 1;
            case 'u' -> 15;
            case 'p' -> Integer.MAX_VALUE;
            case 'z' -> slots - 1;
            case 's' -> slots;
            case 'n' -> 60;
            case 'N' -> 200;
            case 'v', 'b' -> 9999;
            case 'B', 'f' -> 999;
            case 'm' -> 2;
            case 'w' -> 4;
            default -> held;
        };
    }

    private boolean anyMissing(String roles) {
        return roles.chars().anyMatch(role -> greatest((char) role) < least((char) role));
    }

    /** Where there is no campaign, tag, impression or character at all, not even the first one exists. */
    private void missing(String call, String roles) {
        int[] arguments = leasts(roles);
        twins.index(name + ": " + call + Arrays.toString(arguments), x -> answer(x, call, arguments));
        int[] before = new int[roles.length()];
        Arrays.fill(before, -1);
        twins.index(name + ": " + call + Arrays.toString(before), x -> answer(x, call, before));
    }

    private int[] leasts(String roles) {
        return roles.chars().map(role -> least((char) role)).toArray();
    }

    private void taken(String call, String roles, int at) {
        for (int value : new int[] {least(roles.charAt(at)), greatest(roles.charAt(at))}) {
            int[] arguments = leasts(roles);
            arguments[at] = value;
            AdMarketplace x = new AdMarketplace();
            past.on(x);
            Object outcome = Check.outcome(() -> answer(x, call, arguments));
            // The state may forbid what is in range.
            boolean fine = !outcome.toString().startsWith("throws ") || outcome.equals("throws IllegalStateException");
            CHECK.due(name + ": " + call + Arrays.toString(arguments) + " (" + outcome + ") is fine", true, fine);
        }
    }

    private void refused(String call, String roles, int at) {
        char role = roles.charAt(at);
        for (int value : new int[] {least(role) - 1, greatest(role) + 1, Integer.MIN_VALUE, Integer.MAX_VALUE}) {
            if (value >= least(role) && value <= greatest(role)) {
                continue;
            }
            int[] arguments = leasts(roles);
            arguments[at] = value;
            twins.answers(name + ": " + call + Arrays.toString(arguments), isIndex(role) ? INDEX : ARGUMENT,
                x -> answer(x, call, arguments));
        }
    }

    /** Everything is wrong but for the parameters before this one: what does not exist is looked at first. */
    private void checkedFirst(String call, String roles, int at) {
        int[] arguments = leasts(roles);
        boolean index = false;
        for (int i = at; i < arguments.length; i++) {
            arguments[i] = least(roles.charAt(i)) - 1;
            index |= isIndex(roles.charAt(i));
        }
        twins.answers(name + ": " + call + Arrays.toString(arguments), index ? INDEX : ARGUMENT, x -> answer(x, call, arguments));
    }

    private static Object answer(AdMarketplace x, String call, int[] arguments) {
        Class<?>[] types = new Class<?>[arguments.length];
        Arrays.fill(types, int.class);
        try {
            return AdMarketplace.class.getMethod(call, types).invoke(x, Arrays.stream(arguments).boxed().toArray());
        } catch (InvocationTargetException e) {
            if (e.getCause() instanceof RuntimeException thrown) {
                throw thrown;
            }
            throw new AssertionError(e);
        } catch (ReflectiveOperationException e) {
            throw new AssertionError(e);
        }
    }
}
