import java.io.IOException;
import java.lang.reflect.Constructor;
import java.lang.reflect.Field;
import java.lang.reflect.Method;
import java.lang.reflect.Modifier;
import java.nio.file.Files;
import java.nio.file.Path;
import java.util.Arrays;
import java.util.Set;
import java.util.TreeSet;

/** The public face of the document, and those rules of LANGUAGE.md that are plain to look at. */
public final class FaceTest {
    private static final String[] FACE = {
        "int addTrain(int)", "int setPressure(int, int)", "int setSalinity(int)", "int setRecovery(int)",
        "int clean(int)", "int fouling(int)", "int wear(int)", "int cleaningLeft(int)", "int productOf(int)",
        "int energyOf(int)", "int readyTrains()", "int addTank(int)", "int setDemand(int, int, int, int)",
        "int setPrice(int, int, int)", "int demand(int, int)", "int level(int)", "int shortOf(int)",
        "int pass(boolean)", "int run(int)", "int setHorizon(int)", "int order(int, boolean)",
        "boolean takeBack(int)", "int halfHour()", "int bestCost(int)", "int bestCostByTrying(int)",
        "boolean isOnInBest(int, int)", "int allowedSchedules(int)", "long feed()", "long product()",
        "long brine()", "long spilled()", "long spilledByBalance()", "long cost()", "boolean isBalanced()",
        "float servedShare()", "double meanCost()"};

    private FaceTest() {
    }

    public static void main(String[] args) throws IOException {
        Set<String> methods = new TreeSet<>();
        Set<String> publicNames = new TreeSet<>();
        Set<String> privateNames = new TreeSet<>();
        for (Method method : MembranePlant.class.getDeclaredMethods()) {
            if (Modifier.isPrivate(method.getModifiers())) {
                privateNames.add(method.getName());
            } else {
                methods.add(face(method));
                publicNames.add(method.getName());
            }
        }
        Set<String> due = new TreeSet<>();
        for (String line : FACE) {
            due.add("public " + line);
        }
        Check.due("methods", due, methods);
        classes(publicNames, privateNames);
        sizes(MembranePlant.class);
        privateNames.retainAll(publicNames);
        Check.due("private names that are public ones", Set.of(), privateNames);
        outside();
        source();
        Check.end();
    }

    private static String face(Method method) {
        StringBuilder text = new StringBuilder(Modifier.toString(method.getModifiers()));
        text.append(' ').append(method.getReturnType().getName()).append(' ').append(method.getName());
        return text + Arrays.toString(method.getParameterTypes()).replace('[', '(').replace(']', ')');
    }

    private static void outside() {
        Check.due("class", "public final", Modifier.toString(MembranePlant.class.getModifiers()));
        Constructor<?>[] constructors = MembranePlant.class.getDeclaredConstructors();
        Check.dueInt("constructors", 1, constructors.length);
        Check.due("constructor", "public MembranePlant()", constructors[0].toString());
        for (Field field : MembranePlant.class.getDeclaredFields()) {
            Check.dueBool("private field " + field.getName(), true, Modifier.isPrivate(field.getModifiers()));
        }
    }

    private static void classes(Set<String> publicNames, Set<String> privateNames) {
        Class<?>[] inside = MembranePlant.class.getDeclaredClasses();
        Check.dueBool("at most twelve classes", true, inside.length <= 12);
        for (Class<?> one : inside) {
            int modifiers = one.getModifiers();
            Check.dueBool(one.getName() + " is static", true, Modifier.isStatic(modifiers));
            Check.dueBool(one.getName() + " is inside", false,
                    Modifier.isPublic(modifiers) || Modifier.isProtected(modifiers));
            sizes(one);
            for (Method method : one.getDeclaredMethods()) {
                privateNames.add(method.getName());
            }
            for (Field field : one.getDeclaredFields()) {
                boolean open = Modifier.isStatic(field.getModifiers()) && !Modifier.isFinal(field.getModifiers());
                Check.dueBool("static state " + field, false, open);
            }
        }
    }

    private static void sizes(Class<?> one) {
        int fields = 0;
        for (Field field : one.getDeclaredFields()) {
            fields += Modifier.isStatic(field.getModifiers()) ? 0 : 1;
        }
        Check.dueBool("at most twenty fields in " + one.getName(), true, fields <= 20);
        for (Method method : one.getDeclaredMethods()) {
            Check.dueBool("at most seven parameters of " + method, true, method.getParameterCount() <= 7);
        }
    }

    private static void source() throws IOException {
        String text = Files.readString(Path.of("src/main/java/MembranePlant.java"));
        String[] never = {"->", "::", "catch", "finally", "synchronized", "assert", "Exact(", "Random",
            "System.n", "currentTime", "Integer.M", "import java.util.*", "Object", "var "};
        for (String sign : never) {
            Check.dueBool("the source has no " + sign, false, text.contains(sign));
        }
        for (String line : text.split("\n")) {
            if (line.startsWith("import ")) {
                Check.dueBool(line, true, line.equals("import java.util.Arrays;")
                        || line.equals("import java.util.NoSuchElementException;"));
            }
        }
    }
}
