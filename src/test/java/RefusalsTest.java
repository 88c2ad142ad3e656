import java.util.ArrayList;
import java.util.List;

/**
 * All promises that refuse: of each argument of each call the least and the greatest number that may stand there and
 * the first ones that may not, in an empty hall, a small one and one as full as may be; what a refused call throws,
 * that it leaves all as it was, and that status counts it once, by its reason.
 */
public final class RefusalsTest {
    private static final Check CHECK = new Check();
    private static final int NO_SUCH = 1;
    private static final int ILLEGAL = 2;

    private static final String SMALL = "person 0 3;person 1 2;person 3 9;thing 0 5;thing 1 4;thing 2 7;door 2;"
            + "outside 0 3 0 1;motion 3 1 2;motion 7 4 3;law 1;";
    private static final String FULL = "person0 9;".repeat(5) + "person3 1;".repeat(5) + "thing0 9;".repeat(6)
            + "thing9 8;".repeat(5) + "door7;".repeat(3) + "outside1 9 2 3;".repeat(3) + "motion2 1 512;".repeat(8) + "law2;";

    /** A call whose arguments are all right but for one, which is tried. */
    interface Call {
        long on(WeighedHall x, int[] arguments);
    }

    private static final class Face {
        private final String name;
        private final Call call;
        private final int[][] bounds; // of each argument: one that is right, the least, the greatest, how others are refused

        private Face(String name, Call call, int[]... bounds) {
            this.name = name;
            this.call = call;
            this.bounds = bounds;
        }
    }

    private final String hall;
    private final String lendings;
    private final int bytes;
    private final List<Face> face = new ArrayList<>();

    private RefusalsTest(String hall, String lendings, int bytes) {
        this.hall = hall;
        this.lendings = lendings;
        this.bytes = bytes;
    }

    public static void main(String[] args) {
        allOf("", "", 0);
        allOf("", "", 320);
        allOf("person 0 1;", "", 20);
        allOf("person 0 1;thing 0 1;", "", 20);
        allOf("door 1;motion 0 0 0;", "", 20);
        allOf(SMALL, "lend 0 1 0 9;lend 3 2 2 8;", 40);
        allOf(FULL, "lend0 1 0 1;".repeat(20), 600);
        bothWrong();
        CHECK.end("RefusalsTest");
    }

    private static void allOf(String hall, String lendings, int bytes) {
        RefusalsTest test = new RefusalsTest(hall, lendings, bytes);
        WeighedHall x = test.made();
        test.texts(Math.min(bytes, 300));
        test.told(x.told(0), x.told(1), x.told(2), x.told(3));
        for (Face f : test.face) {
            for (int argument = 0; argument < f.bounds.length; argument++) {
                test.tryArgument(f, argument);
            }
        }
    }

    private WeighedHall made() {
        WeighedHall x = Check.told(hall);
        Check.lend(x, lendings);
        x.image();
        x.vote(0, 0, 0);
        x.image();
        Check.hall(x, "la");
        for (int i = 0; i < bytes; i += 20) {
            x.feed(0x6c617720, 0x303b2020, 0x20202020, 0x20202020, 0x20202020);
        }
        return x;
    }

    private static int[] range(int right, int least, int greatest, int refused) {
        return new int[] {right, least, greatest, refused};
    }

    private static int[] numbered(int number) {
        return range(0, 0, number - 1, NO_SUCH);
    }

    private static int[] what(int greatest) {
        return range(0, 0, greatest, ILLEGAL);
    }

    private void add(String name, Call call, int[]... bounds) {
        face.add(new Face(name, call, bounds));
    }

    private void texts(int lendable) {
        add("hall", (x, a) -> x.hall(a[0]), range(0, 0, bytes, ILLEGAL));
        add("lend", (x, a) -> x.lend(a[0]), range(0, 0, lendable, ILLEGAL));
    }

    private void told(int persons, int things, int doors, int motions) {
        int[] minute = what(119);
        int[] law = what(2);
        add("told", (x, a) -> x.told(a[0]), what(5));
        add("person", (x, a) -> x.person(a[0], a[1]), numbered(persons), what(2));
        add("thing", (x, a) -> x.thing(a[0], a[1]), numbered(things), what(3));
        add("holds", (x, a) -> x.holds(a[0], a[1]), numbered(things), minute);
        add("pounds", (x, a) -> x.pounds(a[0], a[1], a[2]), numbered(persons), minute, what(1));
        add("spent", (x, a) -> x.spent(a[0]), numbered(persons));
        add("motion", (x, a) -> x.motion(a[0], a[1], a[2]), numbered(motions), law, what(2));
        add("passes", (x, a) -> x.passes(a[0]), law);
        add("unlike", (x, a) -> x.unlike(a[0], a[1]), law, law);
        add("sums", (x, a) -> x.sums(a[0], a[1]), minute, what(2));
        add("least", (x, a) -> x.least(a[0], a[1]), numbered(motions), what(1));
        add("decides", (x, a) -> x.decides(a[0]), numbered(things));
        add("power", (x, a) -> x.power(a[0]), numbered(persons));
        add("wins", (x, a) -> x.wins(a[0]) ? 1 : 0, what(15));
        add("owed", (x, a) -> x.owed(a[0], a[1], a[2]), what(3), what(9999), what(1));
        add("bring", (x, a) -> x.bring(a[0], a[1]), numbered(doors), what(999));
        add("vote", (x, a) -> x.vote(a[0], a[1], a[2]), what((1 << persons) - 1), what((1 << persons) - 1),
                range(0, -9999, 9999, ILLEGAL));
        add("hollow", (x, a) -> x.hollow(a[0]), what(4));
        add("tired", (x, a) -> x.tired(a[0]), numbered(motions));
        add("speech", (x, a) -> x.speech(a[0], a[1]) ? 1 : 0, numbered(motions), range(1, 1, 60, ILLEGAL));
    }

    private void tryArgument(Face f, int argument) {
        int[] bound = f.bounds[argument];
        for (int i = 0; i < f.bounds.length; i++) {
            if (i != argument && f.bounds[i][2] < f.bounds[i][1]) {
                return; // another argument can't be right in this hall, so this one alone is not at fault
            }
        }
        if (bound[1] <= bound[2]) {
            answered(f, argument, bound[1]);
            answered(f, argument, bound[2]);
        }
        refused(f, argument, bound[1] - 1);
        refused(f, argument, bound[2] + 1);
        refused(f, argument, Integer.MIN_VALUE);
        refused(f, argument, Integer.MAX_VALUE);
    }

    private static int[] argumentsOf(Face f, int argument, int number) {
        int[] arguments = new int[f.bounds.length];
        for (int i = 0; i < arguments.length; i++) {
            arguments[i] = i == argument ? number : f.bounds[i][0];
        }
        return arguments;
    }

    private String nameOf(Face f, int argument, int number) {
        return "'" + hall + "' " + f.name + " with argument " + argument + " of " + number;
    }

    private void answered(Face f, int argument, int number) {
        WeighedHall x = made();
        int how = Check.refusal(() -> f.call.on(x, argumentsOf(f, argument, number)));
        CHECK.due(nameOf(f, argument, number) + " is refused as", how, 0);
        CHECK.due(nameOf(f, argument, number) + ": status", x.status(0) + x.status(1), 0);
    }

    private void refused(Face f, int argument, int number) {
        WeighedHall x = made();
        WeighedHall twin = made();
        String name = nameOf(f, argument, number);
        int kind = f.bounds[argument][3];
        int how = Check.refusal(() -> f.call.on(x, argumentsOf(f, argument, number)));
        CHECK.due(name + " is refused as", how, kind);
        CHECK.due(name + ": status(0)", x.status(0), kind == NO_SUCH ? 1 : 0);
        CHECK.due(name + ": status(1)", x.status(1), kind == ILLEGAL ? 1 : 0);
        CHECK.due(name + ": fault", x.fault(), twin.fault());
        CHECK.due(name + ": tape", x.count(2), bytes);
        CHECK.same(name, Answers.of(x), Answers.of(twin));
        CHECK.same(name, Answers.ofImages(x), Answers.ofImages(twin));
        CHECK.due(name + ": the tape's bytes", x.hall(bytes), 0);
    }

    /** The document does not say which comes first: the face names NoSuchElementException ahead of the other. */
    private static void bothWrong() {
        WeighedHall x = Check.told(SMALL);
        CHECK.noSuch("person(3, 3)", () -> x.person(3, 3));
        CHECK.noSuch("thing(4, 4)", () -> x.thing(4, 4));
        CHECK.noSuch("holds(4, 120)", () -> x.holds(4, 120));
        CHECK.noSuch("pounds(3, 120, 2)", () -> x.pounds(3, 120, 2));
        CHECK.noSuch("motion(2, 3, 3)", () -> x.motion(2, 3, 3));
        CHECK.noSuch("least(2, 2)", () -> x.least(2, 2));
        CHECK.noSuch("bring(1, 1000)", () -> x.bring(1, 1000));
        CHECK.noSuch("speech(2, 61)", () -> x.speech(2, 61) ? 1 : 0);
        CHECK.due("each counts once", x.status(0), 8);
        CHECK.due("by one reason", x.status(1), 0);
        CHECK.illegal("owed(4, 10000, 2)", () -> x.owed(4, 10000, 2));
        CHECK.illegal("vote(8, 8, 10000)", () -> x.vote(8, 8, 10000));
        CHECK.illegal("sums(120, 3)", () -> x.sums(120, 3));
        CHECK.illegal("unlike(3, 3)", () -> x.unlike(3, 3));
        CHECK.due("each counts once", x.status(1), 4);
    }
}
