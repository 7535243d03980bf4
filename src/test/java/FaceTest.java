import java.lang.reflect.Constructor;
import java.lang.reflect.Field;
import java.lang.reflect.Method;
import java.lang.reflect.Modifier;
import java.util.Map;
import java.util.TreeMap;
import java.util.TreeSet;

/** The public face of the document, and no more than it. */
public final class FaceTest {
    private static final String[] CALLS = {
        "int type(long, int)", "int clear()", "int bridge()", "int cat(int, int)", "int cell(int, int)", "int now(int)",
        "int minutes(int)", "int drop(int)", "int enter(int)", "int move(int)",
        "int at(int, int)", "int soonest()", "int step(int)", "long ways(int)", "int bait(int)", "int tenth(int)",
        "int close()", "long marks(int, int)",
        "int mark(int, int)", "int keep(int)", "int back(int)", "int count(int)", "long trace()"};

    public static void main(String[] args) throws IllegalAccessException {
        theClass();
        theConstructor();
        theCalls();
        theConstants();
        Due.end();
    }

    private static void theClass() {
        Due.isText("the class", Modifier.toString(NineCats.class.getModifiers()), "public final");
        Due.isText("its package", NineCats.class.getPackageName(), "");
        Due.isText("what it extends", NineCats.class.getSuperclass().getName(), "java.lang.Object");
        Due.is("interfaces that it implements", NineCats.class.getInterfaces().length, 0);
    }

    private static void theConstructor() {
        Constructor<?>[] all = NineCats.class.getDeclaredConstructors();
        Due.is("constructors", all.length, 1);
        Due.isText("the constructor", all[0].toString(), "public NineCats()");
    }

    private static void theCalls() {
        TreeSet<String> due = new TreeSet<>();
        for (String call : CALLS) {
            due.add("public " + call);
        }
        TreeSet<String> got = new TreeSet<>();
        for (Method method : NineCats.class.getDeclaredMethods()) {
            if (!Modifier.isPrivate(method.getModifiers()) && !method.isSynthetic()) {
                got.add(method.toString().replace("NineCats.", "").replace(",", ", "));
            }
        }
        Due.isText("the calls", String.join("\n", got), String.join("\n", due));
    }

    private static void theConstants() throws IllegalAccessException {
        Map<String, Integer> due = Map.of("BAD", -1, "STATE", -2, "FULL", -3, "NONE", -9, "NO", -1000000);
        Map<String, Integer> got = new TreeMap<>();
        for (Field field : NineCats.class.getDeclaredFields()) {
            if (!Modifier.isPrivate(field.getModifiers())) {
                Due.isText("the constant " + field.getName(), Modifier.toString(field.getModifiers()) + " " + field.getType(),
                    "public static final int");
                got.put(field.getName(), field.getInt(null));
            }
        }
        Due.isText("the constants", got.toString(), new TreeMap<>(due).toString());
    }
}
