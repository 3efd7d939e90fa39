import java.lang.reflect.Constructor;
import java.lang.reflect.Field;
import java.lang.reflect.Method;
import java.lang.reflect.Modifier;
import java.util.Arrays;
import java.util.List;
import java.util.Set;
import java.util.TreeSet;
import java.util.stream.Collectors;

/** The public face: every constant, constructor and method of the document, and no other visible member. */
final class FaceTest {
    private static final String[] FACE = {
        "int feed(int,int,int,int,int)", "int load(int)", "int errorKind()", "int errorPosition()",
        "int campaigns()", "int tags()", "int slots()", "int floor(int)", "int bid(int)", "int effectiveBid(int)",
        "int multiplier(int)", "int budget(int)", "int spent(int)", "int plan(int)", "int mode(int)", "int tick()",
        "int refusal(int,int,int)", "int ranked(int,int,int)", "int winner(int,int,int)", "int price(int,int,int)",
        "int leastBid(int,int,int,int)", "int bestFloor(int,int,int)", "int revenueAfter(int,int,int)",
        "int multiplierAfter(int,int,int,int)", "int bestMode(int,int,int,int)", "int request(int,int,int)",
        "int pass(int)", "int convert(int,int)", "int pause(int)", "int resume(int)", "int setBid(int,int)",
        "int setBudget(int,int)", "int setMode(int,int)", "int setFloor(int,int)", "int undo()", "int impressions()",
        "int impression(int,int)", "int revenue()", "int reach(int)", "double frequency(int)", "int recent(int,int)",
        "int topUser()", "double meanPrice(int)", "int conversions()", "double credit(int,int)", "int unattributed()",
        "int write(int)", "char written(int)",
    };

    public static void main(String[] args) {
        Check check = new Check("FaceTest");
        check.due("NONE", -1, AdMarketplace.NONE);
        check.due("FULL", -2, AdMarketplace.FULL);
        check.due("BAD_TEXT", -3, AdMarketplace.BAD_TEXT);
        check.due("the class is public", true, Modifier.isPublic(AdMarketplace.class.getModifiers()));
        check.due("the class is final", true, Modifier.isFinal(AdMarketplace.class.getModifiers()));
        check.due("the visible methods", new TreeSet<>(List.of(FACE)), visibleMethods());
        check.due("the visible fields", new TreeSet<>(List.of("BAD_TEXT", "FULL", "NONE")), visibleFields());
        Constructor<?>[] constructors = AdMarketplace.class.getDeclaredConstructors();
        check.due("constructors", 1, constructors.length);
        check.due("its parameters", 0, constructors[0].getParameterCount());
        privateNames(check);
        check.end();
    }

    private static Set<String> visibleMethods() {
        return Arrays.stream(AdMarketplace.class.getDeclaredMethods())
            .filter(m -> !Modifier.isPrivate(m.getModifiers()))
            .map(FaceTest::signature).collect(Collectors.toCollection(TreeSet::new));
    }

    private static String signature(Method m) {
        return m.getReturnType() + " " + m.getName() + Arrays.stream(m.getParameterTypes())
            .map(Class::getName).collect(Collectors.joining(",", "(", ")"));
    }

    private static Set<String> visibleFields() {
        return Arrays.stream(AdMarketplace.class.getDeclaredFields())
            .filter(f -> !Modifier.isPrivate(f.getModifiers()))
            .map(Field::getName).collect(Collectors.toCollection(TreeSet::new));
    }

    /** LANGUAGE.md, rule 1: no private method bears the name of a public one. */
    private static void privateNames(Check check) {
        Set<String> face = Arrays.stream(FACE)
            .map(s -> s.substring(s.indexOf(' ') + 1, s.indexOf('('))).collect(Collectors.toSet());
        for (Method m : AdMarketplace.class.getDeclaredMethods()) {
            if (Modifier.isPrivate(m.getModifiers())) {
                check.due("a private method named " + m.getName(), false, face.contains(m.getName()));
            }
        }
        for (Class<?> c : AdMarketplace.class.getDeclaredClasses()) {
            check.due(c.getSimpleName() + " is static", true, Modifier.isStatic(c.getModifiers()));
            for (Method m : c.getDeclaredMethods()) {
                check.due("a method " + c.getSimpleName() + "." + m.getName(), false, face.contains(m.getName()));
            }
        }
    }
}
