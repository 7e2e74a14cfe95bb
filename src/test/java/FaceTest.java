import java.lang.reflect.Constructor;
import java.lang.reflect.Field;
import java.lang.reflect.Method;
import java.lang.reflect.Modifier;
import java.util.List;
import java.util.Set;
import java.util.TreeSet;

/** 'The public face': the class offers what the document shows there, and nothing else. */
public final class FaceTest {
    private static final List<String> FACE = List.of(
            "public EquityRelease()",
            "public int begin(int, int, int, int) throws IllegalArgumentException, IllegalStateException",
            "public int setRate(int) throws IllegalArgumentException",
            "public int draw(int) throws IllegalArgumentException, IllegalStateException",
            "public int pay(int) throws IllegalArgumentException, IllegalStateException",
            "public int pass(int) throws IllegalArgumentException, IllegalStateException",
            "public int end(int) throws IndexOutOfBoundsException, IllegalStateException",
            "public int value(int) throws IllegalArgumentException, IllegalStateException",
            "public long move(int) throws IllegalArgumentException, IllegalStateException",
            "public int day()",
            "public boolean hasEnded()",
            "public int age()",
            "public int worth()",
            "public int room()",
            "public int drawings()",
            "public long balance(int) throws IndexOutOfBoundsException",
            "public long debt()",
            "public long debtAnew()",
            "public long owed()",
            "public long spared()",
            "public int allowance()",
            "public int charge(int) throws IllegalArgumentException, IllegalStateException");

    public static void main(String[] args) {
        theClass();
        offersAllThatIsShown();
        offersNothingElse();
        sharesNothingBetweenObjects();
        Checks.finish("FaceTest");
    }

    private static void theClass() {
        Checks.due("the class is public and final", EquityRelease.class.getModifiers(),
                Modifier.PUBLIC | Modifier.FINAL);
        Checks.holds("the class extends nothing", EquityRelease.class.getSuperclass() == Object.class);
        Checks.due("the class implements nothing", EquityRelease.class.getInterfaces().length, 0);
        Checks.holds("the class has no package", EquityRelease.class.getPackageName().isEmpty());
    }

    private static void offersAllThatIsShown() {
        Set<String> offered = offered();
        for (String shown : FACE) {
            Checks.holds(shown, offered.contains(shown));
        }
    }

    private static void offersNothingElse() {
        for (String one : offered()) {
            Checks.holds(one + " is shown", FACE.contains(one));
        }
        Set<String> names = new TreeSet<>();
        for (Method method : EquityRelease.class.getDeclaredMethods()) {
            Checks.holds(method.getName() + " is the only one of its name", names.add(method.getName()));
        }
        for (Field field : EquityRelease.class.getDeclaredFields()) {
            Checks.holds(field.getName() + " is private", Modifier.isPrivate(field.getModifiers()));
        }
    }

    private static void sharesNothingBetweenObjects() {
        for (Field field : EquityRelease.class.getDeclaredFields()) {
            int modifiers = field.getModifiers();
            Checks.holds(field.getName() + " is no state of all",
                    !Modifier.isStatic(modifiers) || Modifier.isFinal(modifiers));
        }
        EquityRelease used = new EquityRelease();
        EquityRelease left = new EquityRelease();
        used.pass(400);
        used.setRate(900);
        used.begin(100000, 60, 70, 5000);
        used.end(0);
        Checks.due("1 the day of another object", left.day(), 0);
        Checks.due("1 the rate of another object", left.setRate(500), 500);
        Checks.due("1 no loan of another object", left.begin(1000, 55, 0, 0), 200);
        Checks.due("13 the worth stays", used.worth(), 100000);
        Checks.due("12 the age stays", used.age(), 71);
    }

    private static Set<String> offered() {
        Set<String> offered = new TreeSet<>();
        for (Constructor<?> made : EquityRelease.class.getDeclaredConstructors()) {
            if (!Modifier.isPrivate(made.getModifiers())) {
                offered.add(plain(made.toString()));
            }
        }
        for (Method method : EquityRelease.class.getDeclaredMethods()) {
            if (!Modifier.isPrivate(method.getModifiers())) {
                offered.add(plain(method.toString()));
            }
        }
        return offered;
    }

    private static String plain(String told) {
        return told.replace("EquityRelease.", "").replace("java.lang.", "").replace(",", ", ");
    }
}
