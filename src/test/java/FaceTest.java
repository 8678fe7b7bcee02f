import java.io.IOException;
import java.lang.reflect.Constructor;
import java.lang.reflect.Field;
import java.lang.reflect.InvocationTargetException;
import java.lang.reflect.Method;
import java.lang.reflect.Modifier;
import java.nio.file.Files;
import java.nio.file.Path;
import java.util.ArrayList;
import java.util.Arrays;
import java.util.List;
import java.util.NoSuchElementException;
import java.util.TreeSet;

/** The document's face and the rules of LANGUAGE.md that a test can look at; no call ever throws by itself. */
public final class FaceTest {
    private static final Check CHECK = new Check();
    private static final String[] FACE = {
        "boolean anew", "int back", "int bestBit int", "int bestRule int int", "int chance int int", "int count int", "int fault int",
        "int feed int int int int int", "int gets int int", "int go int", "int groove int int", "int guest int int", "int keep",
        "long law int int", "int light int", "long likely int int int", "int loop", "int missed int", "int most", "int named int",
        "int needle int", "int nudge int", "int out int int", "int plays", "int reaches int int", "int rest int int int",
        "int rests int int", "int rule int int int", "int scratch int int", "int strike int", "int tames int",
        "int tape int int boolean", "int text int", "int threw int", "int tried int int int", "int undo", "boolean known int",
        "boolean weigh int", "int when int int"};
    private static final int[] NUMBERS = {Integer.MIN_VALUE, Integer.MIN_VALUE + 1, -65536, -201, -10, -2, -1, 0, 1, 2, 3, 4, 6, 7, 9, 11, 12,
        24, 60, 99, 100, 200, 201, 700, 99999, Integer.MAX_VALUE - 1, Integer.MAX_VALUE};
    private static final String FULL = Check.times("groove 9 9;", 12) + "scrat 0 100 9 0 9;scrat 11 100 1 0 1;scrat 5 50 9 50 9;scrat 7 0 1 0 1;"
        + "guest a 9 9 99;guest b 1 0 0;guest zzzzzz 3 9 9;guest d 9 1 1;price 99 9;seed 99999;"
        + "law back 100-worn/7+turn/(round-3);law wear 9-heavy*(heard/place);law worth heard*9999*9999*9999-turn;";

    public static void main(String[] args) throws IOException, ReflectiveOperationException {
        theClass();
        theConstant();
        theConstructor();
        theMethods();
        nothingElseIsSeen();
        namesOfPrivateMethods();
        classesInside();
        staticState();
        parametersAndFields();
        words();
        anyArgumentsInAnyState();
        longUse();
        CHECK.close("FaceTest");
    }

    private static void theClass() {
        CHECK.sentence("rule 1: public and final");
        CHECK.due("modifiers", StuckGroove.class.getModifiers(), Modifier.PUBLIC | Modifier.FINAL);
        CHECK.due("no package", StuckGroove.class.getName(), "StuckGroove");
    }

    private static void theConstant() throws ReflectiveOperationException {
        CHECK.sentence("public static final int NONE = -1");
        CHECK.due("public fields", StuckGroove.class.getFields().length, 1);
        Field none = StuckGroove.class.getField("NONE");
        CHECK.due("NONE", none.getInt(null), -1);
        CHECK.due("its type", none.getType().getName(), "int");
        CHECK.due("its modifiers", none.getModifiers(), Modifier.PUBLIC | Modifier.STATIC | Modifier.FINAL);
    }

    private static void theConstructor() {
        CHECK.sentence("public StuckGroove()");
        Constructor<?>[] all = StuckGroove.class.getDeclaredConstructors();
        CHECK.due("constructors", all.length, 1);
        CHECK.due("parameters", all[0].getParameterCount(), 0);
        CHECK.due("public", Modifier.isPublic(all[0].getModifiers()), true);
    }

    private static String told(Method method) {
        StringBuilder text = new StringBuilder(method.getReturnType().getName()).append(' ').append(method.getName());
        for (Class<?> type : method.getParameterTypes()) {
            text.append(' ').append(type.getName());
        }
        return text.toString();
    }

    private static List<Method> face() {
        List<Method> found = new ArrayList<>();
        for (Method method : StuckGroove.class.getDeclaredMethods()) {
            if (Modifier.isPublic(method.getModifiers())) {
                found.add(method);
            }
        }
        return found;
    }

    private static void theMethods() {
        CHECK.sentence("The public face");
        TreeSet<String> due = new TreeSet<>(Arrays.asList(FACE));
        TreeSet<String> found = new TreeSet<>();
        for (Method method : face()) {
            found.add(told(method));
            CHECK.due(method.getName() + " is public and no more", method.getModifiers(), Modifier.PUBLIC);
            String thrown = Arrays.toString(method.getExceptionTypes());
            CHECK.due(method.getName() + " throws", thrown, method.getName().equals("groove")
                ? "[class java.lang.IndexOutOfBoundsException, class java.util.NoSuchElementException]" : "[]");
        }
        CHECK.due("methods", found.toString(), due.toString());
    }

    private static void nothingElseIsSeen() {
        CHECK.sentence("rule 1: no other public, protected or package-visible member");
        for (Method method : StuckGroove.class.getDeclaredMethods()) {
            int modifiers = method.getModifiers();
            CHECK.due(method.getName(), Modifier.isPublic(modifiers) || Modifier.isPrivate(modifiers) || method.isSynthetic(), true);
        }
        for (Field field : StuckGroove.class.getDeclaredFields()) {
            CHECK.due(field.getName(), Modifier.isPrivate(field.getModifiers()) || field.getName().equals("NONE"), true);
        }
    }

    private static void namesOfPrivateMethods() {
        CHECK.sentence("rule 1: No private method bears the name of a public one");
        TreeSet<String> names = new TreeSet<>();
        for (Method method : face()) {
            names.add(method.getName());
        }
        for (Class<?> inside : allClasses()) {
            for (Method method : inside.getDeclaredMethods()) {
                boolean ofTheFace = inside == StuckGroove.class && Modifier.isPublic(method.getModifiers());
                CHECK.due(inside.getName() + "." + method.getName(), !ofTheFace && names.contains(method.getName()), false);
            }
        }
    }

    private static List<Class<?>> allClasses() {
        List<Class<?>> all = new ArrayList<>();
        all.add(StuckGroove.class);
        all.addAll(Arrays.asList(StuckGroove.class.getDeclaredClasses()));
        return all;
    }

    private static void classesInside() {
        CHECK.sentence("rules 2 and 11: classes inside");
        for (Class<?> inside : StuckGroove.class.getDeclaredClasses()) {
            CHECK.due(inside.getName() + " is static", Modifier.isStatic(inside.getModifiers()), true);
            CHECK.due(inside.getName() + " isn't public", Modifier.isPublic(inside.getModifiers()) || Modifier.isProtected(inside.getModifiers()), false);
            CHECK.due(inside.getName() + " has none inside", inside.getDeclaredClasses().length, 0);
        }
        CHECK.due("some twelve classes", allClasses().size() <= 12, true);
    }

    private static void staticState() {
        CHECK.sentence("rule 5: Static fields are final");
        for (Class<?> inside : allClasses()) {
            for (Field field : inside.getDeclaredFields()) {
                int modifiers = field.getModifiers();
                CHECK.due(field.getName(), !Modifier.isStatic(modifiers) || Modifier.isFinal(modifiers), true);
            }
        }
    }

    private static void parametersAndFields() {
        CHECK.sentence("rule 11: at most seven parameters, some twenty fields");
        for (Class<?> inside : allClasses()) {
            int fields = 0;
            for (Field field : inside.getDeclaredFields()) {
                fields += Modifier.isStatic(field.getModifiers()) ? 0 : 1;
            }
            CHECK.due(inside.getName() + " has some twenty fields", fields <= 20, true);
            for (Method method : inside.getDeclaredMethods()) {
                CHECK.due(method.getName() + " takes seven at most", method.getParameterCount() <= 7, true);
            }
        }
    }

    private static void words() throws IOException {
        CHECK.sentence("rules 2 to 6 and 13: what the file may say");
        List<String> lines = Files.readAllLines(Path.of("src/main/java/StuckGroove.java"));
        String[] never = {"->", "::", "catch", "try ", "finally", "synchronized", "assert ", "Exact(", "instanceof", "System.out", "double ",
            "float ", "protected ", "volatile", "Thread", "package ", "static {"};
        for (String line : lines) {
            for (String word : never) {
                CHECK.due("'" + word + "' in " + line, !line.trim().startsWith("/") && line.contains(word), false);
            }
            if (line.startsWith("import ")) {
                CHECK.due("import", line, "import java.util.NoSuchElementException;");
            }
            if (line.contains("throw new ")) {
                CHECK.due(line, line.contains("IndexOutOfBoundsException(\"") || line.contains("NoSuchElementException(\""), true);
            }
        }
    }

    /** Objects in the states that differ most; each time new ones, as an object has 512 calls. */
    private static StuckGroove inState(int which) {
        StuckGroove x = new StuckGroove();
        if (which == 0) {
            return x;
        }
        CHECK.due("the full text", Check.tell(x, FULL), 25);
        if (which == 1) {
            return x;
        }
        x.go(which == 2 ? 77 : 3);
        x.nudge(which == 3 ? 9 : 1);
        x.nudge(which == 3 ? 9 : 1);
        x.tape(60, 11, true);
        x.strike(0);
        for (int i = 2; which == 4 && i < 24; i++) {
            x.strike(i - 1);
        }
        for (int i = 0; which == 4 && i < 101; i++) {
            x.go(i < 100 ? 99 : 96);
        }
        x.keep();
        Check.feed(x, "$");
        return x;
    }

    private static void anyArgumentsInAnyState() throws ReflectiveOperationException {
        CHECK.sentence("rule 7: No call may ever throw by itself");
        for (int state = 0; state <= 4; state++) {
            for (Method method : face()) {
                StuckGroove x = inState(state);
                int count = method.getParameterCount();
                int all = 1;
                for (int i = 0; i < Math.min(count, 3); i++) {
                    all *= NUMBERS.length;
                }
                for (int i = 0; i < all; i += all > 3000 ? 13 : 1) {
                    if (i % 390 == 389) {
                        x = inState(state);
                    }
                    call(x, method, i);
                }
            }
        }
    }

    private static void call(StuckGroove x, Method method, int which) throws ReflectiveOperationException {
        Object[] arguments = new Object[method.getParameterCount()];
        int left = which;
        for (int i = 0; i < arguments.length; i++) {
            int number = NUMBERS[left % NUMBERS.length];
            left /= NUMBERS.length;
            arguments[i] = method.getParameterTypes()[i] == boolean.class ? (Object) (number > 0) : (Object) number;
        }
        try {
            method.invoke(x, arguments);
        } catch (InvocationTargetException e) {
            boolean promised = method.getName().equals("groove") && (e.getCause().getClass() == IndexOutOfBoundsException.class
                || e.getCause().getClass() == NoSuchElementException.class);
            CHECK.due(method.getName() + Arrays.toString(arguments) + " throws " + e.getCause(), promised, true);
        }
    }

    /** 512 calls of one object, texts told anew among them, behind which all stands. */
    private static void longUse() {
        CHECK.sentence("An object is used for at most 512 calls");
        StuckGroove x = new StuckGroove();
        int calls = 0;
        while (calls < 470) {
            CHECK.due("text", Check.tell(x, FULL), 25);
            calls += 1 + (FULL.length() + 19) / 20;
            x.go(99);
            x.chance(calls, 200);
            x.likely(7, 3, 0);
            calls += 3;
        }
        CHECK.due("TURN", x.count(4), 99);
        CHECK.due("GROOVES", x.count(0), 12);
    }
}
