/** The example of README.md: its calls with the answers that stand beside them there. */
public final class ExampleTest {
    private static final Check CHECK = new Check();
    private static final String HALL = "person 0 9;person 1 5;person 1 20;"
            + "thing 0 20;thing 0 14;thing 1 26;door 4;outside 2 10 0 3;"
            + "motion 10 1 6;";
    private static final String LENDINGS = "lend 2 0 8 20;";

    public static void main(String[] args) {
        CHECK.says("README.md");
        WeighedHall x = new WeighedHall();
        feed(x, HALL);
        CHECK.due("hall", x.hall(HALL.length()), 3);
        CHECK.due("thing(3, 3)", x.thing(3, 3), 6);
        CHECK.due("holds(3, 5)", x.holds(3, 5), -2);
        CHECK.due("motion(0, 0, 0)", x.motion(0, 0, 0), 34);
        CHECK.due("motion(0, 0, 1)", x.motion(0, 0, 1), 36);
        CHECK.due("passes(0)", x.passes(0), 0);
        CHECK.due("decides(3)", x.decides(3), 1);
        CHECK.due("tired(0)", x.tired(0), 1);
        CHECK.due("bring(0, 5)", x.bring(0, 5), 0);
        CHECK.due("bring(0, 6)", x.bring(0, 6), 10);
        CHECK.due("wins(2)", x.wins(2), true);
        feed(x, LENDINGS);
        CHECK.due("lend", x.lend(LENDINGS.length()), 1);
        CHECK.due("motion(0, 0, 2)", x.motion(0, 0, 2), 1);
        CHECK.due("spent(0)", x.spent(0), 12);
        CHECK.due("least(0, 0)", x.least(0, 0), 14);
        CHECK.due("least(0, 1)", x.least(0, 1), 2);
        CHECK.due("vote(1, 2, 21)", x.vote(1, 2, 21), 1);
        CHECK.due("hollow(0)", x.hollow(0), 2);
        CHECK.due("hollow(4)", x.hollow(4), 4);
        CHECK.noSuch("spent(3)", () -> x.spent(3));
        CHECK.illegal("told(6)", () -> x.told(6));
        CHECK.due("status(0)", x.status(0), 1);
        CHECK.due("status(1)", x.status(1), 1);
        CHECK.end("ExampleTest");
    }

    /** As README.md writes it, so that the one there is tried too. */
    static void feed(WeighedHall x, String text) {
        for (int i = 0; i < text.length(); i += 20) {
            int[] n = new int[5];
            for (int j = 0; j < 20; j++) {
                n[j / 4] = n[j / 4] << 8 | (i + j < text.length() ? text.charAt(i + j) : ' ');
            }
            x.feed(n[0], n[1], n[2], n[3], n[4]);
        }
    }
}
