import java.lang.reflect.InvocationTargetException;
import java.lang.reflect.Method;
import java.lang.reflect.Modifier;
import java.util.Arrays;
import java.util.Comparator;
import java.util.List;
import java.util.NoSuchElementException;
import java.util.Random;

/** All promises: any call with any arguments throws only what its face tells, and status counts just that. */
public final class AnyArgumentsTest {
    private static final Check CHECK = new Check();
    private static final int[] EDGES = {Integer.MIN_VALUE, Integer.MAX_VALUE, Integer.MIN_VALUE + 1, -10000, -9999, -3,
        -2, -1, 15, 16, 31, 32, 59, 60, 61, 119, 120, 121, 299, 300, 301, 599, 600, 601, 999, 1000, 9999, 10000};
    private static final String[] HALLS = {"", "person 0 1;", "person 0 1;person 3 99;thing 0 60;thing 1 1;door 1;"
            + "outside 1 99 0 99;outside 0 1 0 0;motion 119 1 2;motion 0 3 0;motion 0 0 0;law 1;",
        "person0 9;".repeat(10) + "thing9 99;".repeat(10) + "door1;".repeat(3) + "outside1 99 2 99;".repeat(4)
            + "motion119 1023 0;".repeat(8)};

    public static void main(String[] args) throws IllegalAccessException {
        Method[] methods = face();
        for (int seed = 0; seed < 2000; seed++) {
            Random r = Check.drawn(seed);
            WeighedHall x = Check.told(HALLS[r.nextInt(HALLS.length)]);
            int[] refused = new int[2];
            for (int i = 0; i < 200; i++) {
                call(x, methods[r.nextInt(methods.length)], r, refused);
            }
            CHECK.due("status(0)", x.status(0), refused[0]);
            CHECK.due("status(1)", x.status(1), refused[1]);
        }
        CHECK.end("AnyArgumentsTest");
    }

    private static Method[] face() {
        Method[] methods = Arrays.stream(WeighedHall.class.getDeclaredMethods())
                .filter(m -> Modifier.isPublic(m.getModifiers())).toArray(Method[]::new);
        Arrays.sort(methods, Comparator.comparing(Method::getName));
        CHECK.due("public methods", methods.length, 31);
        CHECK.due("public fields", WeighedHall.class.getFields().length, 1);
        return methods;
    }

    private static void call(WeighedHall x, Method m, Random r, int[] refused) throws IllegalAccessException {
        Object[] arguments = new Object[m.getParameterCount()];
        for (int i = 0; i < arguments.length; i++) {
            int way = r.nextInt(8);
            arguments[i] = way < 5 ? r.nextInt(4) : way < 7 ? EDGES[r.nextInt(EDGES.length)] : r.nextInt();
        }
        String name = m.getName() + Arrays.toString(arguments);
        try {
            m.invoke(x, arguments);
        } catch (InvocationTargetException e) {
            Class<?> thrown = e.getCause().getClass();
            CHECK.due(name + " throws " + thrown, List.of(m.getExceptionTypes()).contains(thrown), true);
            refused[thrown == NoSuchElementException.class ? 0 : 1]++;
        }
    }
}
