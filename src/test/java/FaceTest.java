import java.lang.reflect.Constructor;
import java.lang.reflect.Field;
import java.lang.reflect.Method;
import java.lang.reflect.Modifier;
import java.util.Arrays;
import java.util.List;
import java.util.Map;
import java.util.Set;
import java.util.TreeSet;
import java.util.stream.Collectors;

/** The public face: every constant, constructor and method of the document, and no other visible member. */
final class FaceTest {
    /** Behind the parameters stand the exceptions that the call declares, by the short names of EXCEPTIONS. */
    private static final String[] FACE = {
        "int feed(int,int,int,int,int)", "int load(int) Argument", "int errorKind()", "int errorPosition()",
        "int campaigns()", "int tags()", "int slots()", "int floor(int) Index", "int bid(int) Index",
        "int effectiveBid(int) Index", "int multiplier(int) Index", "int budget(int) Index", "int spent(int) Index",
        "int plan(int) Index", "int mode(int) Index", "int tick()", "int refusal(int,int,int) Index Argument",
        "int ranked(int,int,int) Index Argument", "int winner(int,int,int) Index Argument",
        "int price(int,int,int) Index Argument", "int leastBid(int,int,int,int) Index Argument",
        "int bestFloor(int,int,int) Index Argument", "int revenueAfter(int,int,int) Index Argument",
        "int multiplierAfter(int,int,int,int) Index Argument", "int bestMode(int,int,int,int) Index Argument",
        "int request(int,int,int) Index Argument State", "int pass(int) Argument State",
        "int convert(int,int) Argument State", "int pause(int) Index State", "int resume(int) Index State",
        "int setBid(int,int) Index Argument", "int setBudget(int,int) Index Argument State",
        "int setMode(int,int) Index Argument", "int setFloor(int,int) Index Argument", "int undo()",
        "int impressions()", "int impression(int,int) Index Argument", "int revenue()", "int reach(int) Index",
        "double frequency(int) Index", "int recent(int,int) Index Argument", "int topUser()",
        "double meanPrice(int) Argument", "int conversions()", "double credit(int,int) Index Argument",
        "int unattributed()", "int write(int) Index", "char written(int) Index",
    };
    private static final Map<Class<?>, String> EXCEPTIONS = Map.of(IndexOutOfBoundsException.class, " Index",
        IllegalArgumentException.class, " Argument", IllegalStateException.class, " State");

    public static void main(String[] args) {
        Check check = new Check("FaceTest");
        check.due("NONE", -1, AdMarketplace.NONE);
        check.due("FULL", -2, AdMarketplace.FULL);
        check.due("BAD_TEXT", -3, AdMarketplace.BAD_TEXT);
        check.due("the class is public", true, Modifier.isPublic(AdMarketplace.class.getModifiers()));
        check.due("the class is final", true, Modifier.isFinal(AdMarketplace.class.getModifiers()));
        check.due("the visible methods", new TreeSet<>(List.of(FACE)), visibleMethods());
        check.due("the visible fields", new TreeSet<>(List.of("BAD_TEXT", "FULL", "NONE")), visibleFields());
        Constructor<?>[] constructors = AdMarketplace.class.getDeclaredConstructors();
        check.due("constructors", 1, constructors.length);
        check.due("its parameters", 0, constructors[0].getParameterCount());
        privateNames(check);
        check.end();
    }

    private static Set<String> visibleMethods() {
        return Arrays.stream(AdMarketplace.class.getDeclaredMethods())
            .filter(m -> !Modifier.isPrivate(m.getModifiers()))
            .map(FaceTest::signature).collect(Collectors.toCollection(TreeSet::new));
    }

    private static String signature(Method m) {
        return m.getReturnType() + " " + m.getName() + Arrays.stream(m.getParameterTypes())
            .map(Class::getName).collect(Collectors.joining(",", "(", ")"))
            + Arrays.stream(m.getExceptionTypes()).map(e -> EXCEPTIONS.getOrDefault(e, " " + e)).collect(Collectors.joining());
    }

    private static Set<String> visibleFields() {
        return Arrays.stream(AdMarketplace.class.getDeclaredFields())
            .filter(f -> !Modifier.isPrivate(f.getModifiers()))
            .map(Field::getName).collect(Collectors.toCollection(TreeSet::new));
    }

    /** LANGUAGE.md, rule 1: no private method bears the name of a public one. */
    private static void privateNames(Check check) {
        Set<String> face = Arrays.stream(FACE)
            .map(s -> s.substring(s.indexOf(' ') + 1, s.indexOf('('))).collect(Collectors.toSet());
        for (Method m : AdMarketplace.class.getDeclaredMethods()) {
            if (Modifier.isPrivate(m.getModifiers())) {
                check.due("a private method named " + m.getName(), false, face.contains(m.getName()));
            }
        }
        for (Class<?> c : AdMarketplace.class.getDeclaredClasses()) {
            check.due(c.getSimpleName() + " is static", true, Modifier.isStatic(c.getModifiers()));
            for (Method m : c.getDeclaredMethods()) {
                check.due("a method " + c.getSimpleName() + "." + m.getName(), false, face.contains(m.getName()));
            }
        }
    }
}
