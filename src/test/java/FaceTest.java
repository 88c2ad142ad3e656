import java.lang.reflect.Constructor;
import java.lang.reflect.Executable;
import java.lang.reflect.Field;
import java.lang.reflect.Method;
import java.lang.reflect.Modifier;
import java.util.ArrayList;
import java.util.Arrays;
import java.util.List;
import java.util.Set;
import java.util.TreeSet;

/** The public face as the document writes it, and those rules of LANGUAGE.md that a compiled class shows. */
public final class FaceTest {
    private static final Check CHECK = new Check();
    private static final String NO_SUCH = "NoSuchElementException";
    private static final String ILLEGAL = "IllegalArgumentException";

    /** Answer, name, number of ints that it takes, what it throws. */
    private static final String[][] FACE = {
        {"int", "feed", "5"},
        {"int", "hall", "1", ILLEGAL},
        {"int", "lend", "1", ILLEGAL},
        {"int", "fault", "0"},
        {"int", "told", "1", ILLEGAL},
        {"int", "person", "2", NO_SUCH, ILLEGAL},
        {"int", "thing", "2", NO_SUCH, ILLEGAL},
        {"int", "holds", "2", NO_SUCH, ILLEGAL},
        {"int", "pounds", "3", NO_SUCH, ILLEGAL},
        {"int", "spent", "1", NO_SUCH},
        {"int", "motion", "3", NO_SUCH, ILLEGAL},
        {"int", "passes", "1", ILLEGAL},
        {"int", "unlike", "2", ILLEGAL},
        {"int", "sums", "2", ILLEGAL},
        {"int", "least", "2", NO_SUCH, ILLEGAL},
        {"int", "decides", "1", NO_SUCH},
        {"int", "power", "1", NO_SUCH},
        {"int", "powers", "0"},
        {"boolean", "wins", "1", ILLEGAL},
        {"int", "owed", "3", ILLEGAL},
        {"int", "together", "1"},
        {"int", "bring", "2", NO_SUCH, ILLEGAL},
        {"int", "vote", "3", ILLEGAL},
        {"int", "forget", "0"},
        {"int", "hollow", "1", ILLEGAL},
        {"int", "tired", "1", NO_SUCH},
        {"boolean", "speech", "2", NO_SUCH, ILLEGAL},
        {"int", "image", "0"},
        {"int", "restore", "0"},
        {"int", "status", "1"},
        {"int", "count", "1"},
    };

    public static void main(String[] args) {
        theClass();
        theConstant();
        theMethods();
        nothingElseIsSeen();
        noPrivateMethodBearsAPublicName();
        classesInside();
        staticFields();
        sizes();
        CHECK.end("FaceTest");
    }

    private static void theClass() {
        CHECK.says("public final class WeighedHall");
        CHECK.due("public", Modifier.isPublic(WeighedHall.class.getModifiers()), true);
        CHECK.due("final", Modifier.isFinal(WeighedHall.class.getModifiers()), true);
        CHECK.due("without a package", WeighedHall.class.getPackageName().isEmpty(), true);
        CHECK.due("without a class above it", WeighedHall.class.getSuperclass() == Object.class, true);
        CHECK.due("interfaces", WeighedHall.class.getInterfaces().length, 0);
        CHECK.says("public WeighedHall()");
        Constructor<?>[] all = WeighedHall.class.getDeclaredConstructors();
        CHECK.due("constructors", all.length, 1);
        CHECK.due("public", Modifier.isPublic(all[0].getModifiers()), true);
        CHECK.due("what it takes", all[0].getParameterCount(), 0);
        CHECK.due("what it throws", all[0].getExceptionTypes().length, 0);
    }

    private static void theConstant() {
        CHECK.says("public static final int NONE = -1");
        CHECK.due("NONE", WeighedHall.NONE, -1);
        Field[] seen = WeighedHall.class.getFields();
        CHECK.due("constants", seen.length, 1);
        CHECK.same("its name", seen[0].toString(), "public static final int WeighedHall.NONE");
    }

    private static void theMethods() {
        CHECK.says("The public face");
        Set<String> due = new TreeSet<>();
        for (String[] row : FACE) {
            due.add(row[0] + ' ' + row[1] + " int".repeat(Integer.parseInt(row[2]))
                    + " throws " + Arrays.toString(Arrays.copyOfRange(row, 3, row.length)));
        }
        Set<String> found = new TreeSet<>();
        for (Method method : WeighedHall.class.getDeclaredMethods()) {
            if (Modifier.isPublic(method.getModifiers())) {
                found.add(described(method));
                CHECK.due("static: " + method.getName(), Modifier.isStatic(method.getModifiers()), false);
            }
        }
        CHECK.due("methods", due.size(), FACE.length);
        CHECK.same("the face", String.join("; ", found), String.join("; ", due));
    }

    private static String described(Method method) {
        StringBuilder text = new StringBuilder();
        text.append(method.getReturnType().getSimpleName()).append(' ').append(method.getName());
        for (Class<?> taken : method.getParameterTypes()) {
            text.append(' ').append(taken.getSimpleName());
        }
        List<String> thrown = new ArrayList<>();
        for (Class<?> type : method.getExceptionTypes()) {
            thrown.add(type.getSimpleName());
        }
        return text.append(" throws ").append(thrown).toString();
    }

    private static void nothingElseIsSeen() {
        CHECK.says("no other public, protected or package-visible member");
        for (Method method : WeighedHall.class.getDeclaredMethods()) {
            int marks = method.getModifiers();
            CHECK.due(method.getName(), Modifier.isPublic(marks) || Modifier.isPrivate(marks), true);
        }
        for (Field field : WeighedHall.class.getDeclaredFields()) {
            boolean seen = field.getName().equals("NONE");
            CHECK.due(field.getName(), seen || Modifier.isPrivate(field.getModifiers()), true);
        }
    }

    private static void noPrivateMethodBearsAPublicName() {
        CHECK.says("No private method bears the name of a public one");
        Set<String> names = new TreeSet<>();
        for (String[] row : FACE) {
            names.add(row[1]);
        }
        for (Class<?> each : allClasses()) {
            for (Method method : each.getDeclaredMethods()) {
                boolean ofTheFace = each == WeighedHall.class && Modifier.isPublic(method.getModifiers());
                CHECK.due(each.getSimpleName() + "." + method.getName(),
                        names.contains(method.getName()), ofTheFace);
            }
        }
    }

    private static void classesInside() {
        CHECK.says("the classes inside it, which are private or package-visible and static");
        for (Class<?> inside : WeighedHall.class.getDeclaredClasses()) {
            int marks = inside.getModifiers();
            CHECK.due(inside.getSimpleName() + " is static", Modifier.isStatic(marks), true);
            CHECK.due(inside.getSimpleName() + " is seen", Modifier.isPublic(marks) || Modifier.isProtected(marks), false);
            CHECK.due("classes inside " + inside.getSimpleName(), inside.getDeclaredClasses().length, 0);
        }
    }

    private static void staticFields() {
        CHECK.says("Static fields are final");
        Set<String> types = Set.of("int", "long", "boolean", "char", "String", "int[]", "long[]", "char[]", "byte[]");
        for (Class<?> each : allClasses()) {
            for (Field field : each.getDeclaredFields()) {
                if (Modifier.isStatic(field.getModifiers())) {
                    String name = each.getSimpleName() + "." + field.getName();
                    CHECK.due(name + " is final", Modifier.isFinal(field.getModifiers()), true);
                    CHECK.due(name + " is of a type for constants", types.contains(field.getType().getSimpleName()), true);
                }
            }
        }
    }

    private static void sizes() {
        CHECK.says("at most seven parameters, some twelve classes, a class some twenty fields beside its constants");
        CHECK.due("twelve classes at most", allClasses().size() <= 12, true);
        for (Class<?> each : allClasses()) {
            int fields = 0;
            for (Field field : each.getDeclaredFields()) {
                fields += Modifier.isStatic(field.getModifiers()) ? 0 : 1;
            }
            CHECK.due("twenty fields at most in " + each.getSimpleName(), fields <= 20, true);
            List<Executable> bodies = new ArrayList<>(Arrays.asList(each.getDeclaredMethods()));
            bodies.addAll(Arrays.asList(each.getDeclaredConstructors()));
            for (Executable body : bodies) {
                CHECK.due("seven at most for " + body.getName(), body.getParameterCount() <= 7, true);
            }
        }
    }

    private static List<Class<?>> allClasses() {
        List<Class<?>> all = new ArrayList<>();
        all.add(WeighedHall.class);
        all.addAll(Arrays.asList(WeighedHall.class.getDeclaredClasses()));
        return all;
    }
}
