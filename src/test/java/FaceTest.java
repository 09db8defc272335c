import java.lang.reflect.Constructor;
import java.lang.reflect.Field;
import java.lang.reflect.Method;
import java.lang.reflect.Modifier;
import java.util.Set;
import java.util.TreeSet;

/** The public face is that of the document, and nothing else of the class is open. */
final class FaceTest {
    private static final Check CHECK = new Check("FaceTest");
    private static final String INDEX = "IndexOutOfBoundsException";
    private static final String ARGUMENT = "IllegalArgumentException";
    private static final String STATE = "IllegalStateException";

    public static void main(String[] args) {
        CHECK.test("the public face: methods", FaceTest::methods);
        CHECK.test("the public face: constant and constructor", FaceTest::constantsAndConstructor);
        CHECK.test("the public face: nothing else is open", FaceTest::everythingElseIsPrivate);
        CHECK.end();
    }

    private static void methods() throws Exception {
        method("int", "addPeg", 2, ARGUMENT, STATE);
        method("int", "putGear", 3, INDEX, ARGUMENT, STATE);
        method("int", "putRing", 3, INDEX, ARGUMENT, STATE);
        method("int", "move", 3, INDEX, ARGUMENT, STATE);
        method("int", "flip", 1, INDEX, STATE);
        method("int", "drive", 1, INDEX);
        method("int", "goal", 3, INDEX, ARGUMENT);
        method("int", "set", 1, ARGUMENT);
        method("int", "append", 1, ARGUMENT, STATE);
        method("int", "clearBuffer", 0);
        method("int", "firstError", 0);
        method("int", "build", 0, ARGUMENT);
        method("int", "undo", 0, STATE);
        method("int", "peg", 2, INDEX, ARGUMENT);
        method("long", "speed", 2, INDEX, ARGUMENT);
        method("int", "meshes", 2, INDEX);
        method("int", "train", 3, INDEX, ARGUMENT);
        method("long", "ratio", 3, INDEX, ARGUMENT);
        method("long", "marks", 0);
        method("int", "count", 1, ARGUMENT);
        method("int", "ifPut", 4, INDEX, ARGUMENT);
        method("int", "solution", 1, ARGUMENT);
        method("int", "culprit", 0);
        method("double", "turningShare", 0);
        method("long", "digest", 0);
    }

    private static void method(String returned, String name, int parameters, String... thrown) throws Exception {
        Class<?>[] types = new Class<?>[parameters];
        java.util.Arrays.fill(types, int.class);
        Method method = GearBench.class.getDeclaredMethod(name, types);
        CHECK.equal(name + " is public and no more", method.getModifiers(), Modifier.PUBLIC);
        holds(name + " returns " + returned, method.getReturnType().getName().equals(returned));
        StringBuilder got = new StringBuilder();
        for (Class<?> type : method.getExceptionTypes()) {
            got.append(type.getSimpleName()).append(' ');
        }
        String due = thrown.length == 0 ? "" : String.join(" ", thrown) + " ";
        holds(name + " throws " + due + "but says " + got, got.toString().equals(due));
    }

    private static void constantsAndConstructor() throws Exception {
        CHECK.equal("the class", GearBench.class.getModifiers(), Modifier.PUBLIC | Modifier.FINAL);
        Field none = GearBench.class.getDeclaredField("NONE");
        CHECK.equal("NONE", none.getModifiers(), Modifier.PUBLIC | Modifier.STATIC | Modifier.FINAL);
        holds("NONE is an int", none.getType() == int.class);
        Constructor<?>[] constructors = GearBench.class.getDeclaredConstructors();
        CHECK.equal("constructors", constructors.length, 1);
        CHECK.equal("the constructor", constructors[0].getModifiers(), Modifier.PUBLIC);
        CHECK.equal("its parameters", constructors[0].getParameterCount(), 0);
    }

    private static void everythingElseIsPrivate() {
        Set<String> open = new TreeSet<>();
        int openMethods = 0;
        for (Method method : GearBench.class.getDeclaredMethods()) {
            if (!Modifier.isPrivate(method.getModifiers())) {
                open.add(method.getName());
                openMethods++;
            }
        }
        CHECK.equal("open methods", openMethods, 25);
        for (Field field : GearBench.class.getDeclaredFields()) {
            holds(field.getName() + " is private, or NONE",
                    Modifier.isPrivate(field.getModifiers()) || field.getName().equals("NONE"));
            holds(field.getName() + " is no static state",
                    !Modifier.isStatic(field.getModifiers()) || Modifier.isFinal(field.getModifiers()));
        }
        privateNames(GearBench.class, open);
        for (Class<?> inside : GearBench.class.getDeclaredClasses()) {
            holds(inside + " is static", Modifier.isStatic(inside.getModifiers()));
            holds(inside + " is not public", !Modifier.isPublic(inside.getModifiers()));
            privateNames(inside, open);
        }
    }

    private static void privateNames(Class<?> type, Set<String> open) {
        for (Method method : type.getDeclaredMethods()) {
            if (Modifier.isPrivate(method.getModifiers())) {
                holds(method.getName() + " bears the name of a public method", !open.contains(method.getName()));
            }
        }
    }

    private static void holds(String what, boolean yes) {
        CHECK.equal(what, yes ? 1 : 0, 1);
    }
}
