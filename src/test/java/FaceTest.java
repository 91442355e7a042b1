import java.lang.reflect.Constructor;
import java.lang.reflect.Field;
import java.lang.reflect.Method;
import java.lang.reflect.Modifier;
import java.util.ArrayList;
import java.util.Arrays;
import java.util.List;
import java.util.TreeSet;

/** The class has the document's face: its constants, constructor and methods with their throws clauses, no more. */
public final class FaceTest {
    private static final String FACE = """
            public int part(int group) throws IllegalArgumentException;
            public int stand(int bakery) throws IndexOutOfBoundsException, IllegalStateException;
            public boolean vote(int voter, int candidate) throws IndexOutOfBoundsException, IllegalArgumentException, IllegalStateException;
            public int propose(int bakery, int recipe, int bags, int loaves) throws IndexOutOfBoundsException, IllegalArgumentException, IllegalStateException;
            public int tell(int bakery, int other) throws IndexOutOfBoundsException, IllegalArgumentException, IllegalStateException;
            public int role(int bakery) throws IndexOutOfBoundsException;
            public int term(int bakery) throws IndexOutOfBoundsException;
            public int votedFor(int bakery) throws IndexOutOfBoundsException;
            public boolean reach(int bakery, int other) throws IndexOutOfBoundsException;
            public int entries(int bakery) throws IndexOutOfBoundsException;
            public int versionAt(int bakery, int place) throws IndexOutOfBoundsException;
            public int versions();
            public int termOf(int version) throws IndexOutOfBoundsException;
            public int holders(int version) throws IndexOutOfBoundsException;
            public boolean isHeld(int version) throws IndexOutOfBoundsException;
            public boolean wasHeld(int version) throws IndexOutOfBoundsException;
            public int current(int bakery, int recipe) throws IndexOutOfBoundsException;
            public int addLot() throws IllegalStateException;
            public int deliver(int bakery, int lot, int bags) throws IndexOutOfBoundsException, IllegalArgumentException, IllegalStateException;
            public int condemn(int lot) throws IndexOutOfBoundsException, IllegalStateException;
            public int store(int bakery) throws IndexOutOfBoundsException;
            public int book(int bakery, int hour, int recipe) throws IndexOutOfBoundsException, IllegalArgumentException, IllegalStateException;
            public int renew(int bakery, int hour) throws IndexOutOfBoundsException, IllegalArgumentException, IllegalStateException;
            public int free(int bakery, int hour) throws IndexOutOfBoundsException, IllegalArgumentException, IllegalStateException;
            public int booked(int bakery, int hour) throws IndexOutOfBoundsException, IllegalArgumentException;
            public int stopped();
            public int pass(int hours) throws IllegalArgumentException, IllegalStateException;
            public int time();
            public int missed(int bakery) throws IndexOutOfBoundsException;
            public int batches();
            public int versionOf(int batch) throws IndexOutOfBoundsException;
            public int lotsOf(int batch) throws IndexOutOfBoundsException;
            public int left(int batch) throws IndexOutOfBoundsException;
            public int barred(int batch) throws IndexOutOfBoundsException;
            public int barredAnew(int batch) throws IndexOutOfBoundsException;
            public int sell(int batch, int count) throws IndexOutOfBoundsException, IllegalArgumentException, IllegalStateException;
            public int onSale();
            public int traced(int lot) throws IndexOutOfBoundsException;
            public int tracedAt(int lot, int place) throws IndexOutOfBoundsException;
            public int recalls();
            public int recallOf(int recall) throws IndexOutOfBoundsException;
            public int calledBack(int recall) throws IndexOutOfBoundsException;
            public int why(int recall) throws IndexOutOfBoundsException;
            """;

    private static int wrong = 0;

    public static void main(String[] args) throws IllegalAccessException {
        due("modifiers", Modifier.toString(QuorumBakery.class.getModifiers()), "public final");
        due("package", QuorumBakery.class.getPackageName(), "");
        due("constructors", constructors(), "[public ()]");
        due("constants", constants().toString(),
                new TreeSet<>(List.of("NONE -1", "FOLLOWER 0", "CANDIDATE 1", "LEADER 2", "UNHELD 1", "FLOUR 2")).toString());
        compareMethods();
        System.out.println(wrong == 0 ? "the face is as due" : wrong + " parts of the face are not as due");
        if (wrong != 0) {
            System.exit(1);
        }
    }

    private static void due(String what, String got, String want) {
        if (!got.equals(want)) {
            wrong++;
            System.out.println(what + ": found " + got + ", due is " + want);
        }
    }

    private static String constructors() {
        List<String> found = new ArrayList<>();
        for (Constructor<?> constructor : QuorumBakery.class.getDeclaredConstructors()) {
            found.add(Modifier.toString(constructor.getModifiers()) + " (" + types(constructor.getParameterTypes()) + ")"
                    + types(constructor.getExceptionTypes()));
        }
        return found.toString();
    }

    private static TreeSet<String> constants() throws IllegalAccessException {
        TreeSet<String> found = new TreeSet<>();
        for (Field field : QuorumBakery.class.getDeclaredFields()) {
            if (!Modifier.isPrivate(field.getModifiers())) {
                due(field.getName(), Modifier.toString(field.getModifiers()) + " " + field.getType(), "public static final int");
                found.add(field.getName() + " " + field.getInt(null));
            }
        }
        return found;
    }

    private static void compareMethods() {
        TreeSet<String> found = new TreeSet<>();
        TreeSet<String> publicNames = new TreeSet<>();
        TreeSet<String> privateNames = new TreeSet<>();
        for (Method method : QuorumBakery.class.getDeclaredMethods()) {
            if (Modifier.isPrivate(method.getModifiers())) {
                privateNames.add(method.getName());
            } else {
                publicNames.add(method.getName());
                found.add(Modifier.toString(method.getModifiers()) + " " + method.getReturnType() + " " + method.getName()
                        + "(" + types(method.getParameterTypes()) + ")" + types(method.getExceptionTypes()));
            }
        }
        TreeSet<String> wanted = new TreeSet<>();
        FACE.lines().forEach(line -> wanted.add(signature(line)));
        due("methods", String.join("\n", found), String.join("\n", wanted));
        privateNames.retainAll(publicNames);
        due("private methods with a public one's name", privateNames.toString(), "[]");
    }

    /** "public int f(int a, int b) throws X;" as "public int f(int, int)X". */
    private static String signature(String line) {
        return line.replace(";", "").replace(" throws ", "").replaceAll("int [a-z]+([,)])", "int$1");
    }

    private static String types(Class<?>[] types) {
        return String.join(", ", Arrays.stream(types).map(Class::getSimpleName).toList());
    }
}
