/** Promises 7 to 15: persons, things, the sitting minute by minute, motions by each law. */
public final class SittingTest {
    private static final Check CHECK = new Check();
    private static final String HALL = "person 0 1;person 1 2;thing 0 10;thing 1 7;door 3;"
            + "outside 0 7 0 1;outside 1 3 0 0;motion 2 1 2;motion 5 2 1;motion 6 3 0;motion 7 0 0;";

    public static void main(String[] args) {
        whatWasTold();
        minuteByMinute();
        motions();
        sums();
        edgesOfStrength();
        comingIn();
        lendingAndGivingBack();
        lendingAndTheSpent();
        roots();
        refusals();
        CHECK.end("SittingTest");
    }

    private static void whatWasTold() {
        WeighedHall x = Check.told(HALL);
        CHECK.due("party", x.person(1, 0), 1);
        CHECK.due("arm", x.person(1, 1), 2);
        CHECK.due("own pounds, also outside", x.person(0, 2), 17);
        CHECK.due("owner", x.thing(3, 0), 1);
        CHECK.due("weight", x.thing(2, 1), 7);
        CHECK.due("door of a thing inside", x.thing(1, 2), -1);
        CHECK.due("door", x.thing(2, 2), 0);
        CHECK.due("through, inside", x.thing(1, 3), 0);
        CHECK.due("through from its start on, rounded up", x.thing(2, 3), 4);
        CHECK.due("through behind the one ahead", x.thing(3, 3), 5);
        WeighedHall late = Check.told("person 0 1;door 1;outside 0 99 0 99;");
        CHECK.due("through behind the last minute", late.thing(0, 3), 198);
        WeighedHall y = Check.told("person 0 1;door 4;door 2;outside 0 8 0 0;outside 0 8 1 0;outside 0 1 0 50;");
        CHECK.due("no part of a minute over", y.thing(0, 3), 2);
        CHECK.due("another door does not wait", y.thing(1, 3), 4);
        CHECK.due("a door waits for the start", y.thing(2, 3), 51);
    }

    private static void minuteByMinute() {
        WeighedHall x = Check.told(HALL);
        CHECK.due("at first each his own", x.holds(0, 0), 0);
        CHECK.due("strength behind minute 0", x.pounds(0, 0, 1), 50);
        CHECK.due("outside", x.holds(2, 3), -2);
        CHECK.due("through", x.holds(2, 4), 0);
        CHECK.due("pounds with what came", x.pounds(0, 4, 0), 17);
        CHECK.due("strength", x.pounds(0, 4, 1), 3);
        CHECK.due("spent", x.spent(0), 5);
        CHECK.due("on the floor", x.holds(0, 5), -1);
        CHECK.due("on the floor for good", x.holds(2, 119), -1);
        CHECK.due("pounds of one spent", x.pounds(0, 5, 0), 0);
        CHECK.due("strength as it was last", x.pounds(0, 119, 1), -14);
        CHECK.due("strength", x.pounds(1, 12, 1), 5);
        CHECK.due("spent", x.spent(1), 13);
        CHECK.due("not spent", Check.told("person 0 1;").spent(0), -1);
    }

    private static void motions() {
        WeighedHall x = Check.told(HALL);
        CHECK.due("for by pounds", x.motion(0, 0, 0), 10);
        CHECK.due("against by pounds", x.motion(0, 0, 1), 7);
        CHECK.due("passes by pounds", x.motion(0, 0, 2), 1);
        CHECK.due("for by roots", x.motion(0, 1, 0), 3);
        CHECK.due("against by roots", x.motion(0, 1, 1), 2);
        CHECK.due("by heads", x.motion(0, 2, 0), 1);
        CHECK.due("as many for as against do not pass", x.motion(0, 2, 2), 0);
        CHECK.due("what dropped in this minute counts no more", x.motion(1, 0, 1), 0);
        CHECK.due("one spent counts by heads", x.motion(1, 2, 1), 1);
        CHECK.due("all for", x.motion(2, 2, 0), 2);
        CHECK.due("none for, none against", x.motion(3, 2, 2), 0);
        CHECK.due("passes(0)", x.passes(0), 7);
        CHECK.due("passes(1)", x.passes(1), 7);
        CHECK.due("passes(2)", x.passes(2), 4);
        CHECK.due("unlike(0, 2)", x.unlike(0, 2), 2);
        CHECK.due("unlike(2, 0)", x.unlike(2, 0), 2);
        CHECK.due("unlike(0, 1)", x.unlike(0, 1), 0);
        CHECK.due("unlike(2, 2)", x.unlike(2, 2), 0);
    }

    private static void sums() {
        WeighedHall x = Check.told(HALL);
        CHECK.due("floor", x.sums(4, 0), 0);
        CHECK.due("held", x.sums(3, 1), 17);
        CHECK.due("outside", x.sums(3, 2), 10);
        CHECK.due("held", x.sums(4, 1), 24);
        CHECK.due("outside", x.sums(4, 2), 3);
        CHECK.due("floor", x.sums(5, 0), 17);
        CHECK.due("held", x.sums(5, 1), 10);
        CHECK.due("outside", x.sums(5, 2), 0);
        CHECK.due("floor in the end", x.sums(119, 0), 27);
    }

    private static void edgesOfStrength() {
        WeighedHall x = Check.told("person 0 1;thing 0 60;");
        CHECK.due("strength of 0", x.pounds(0, 0, 1), 0);
        CHECK.due("is not spent", x.holds(0, 0), 0);
        CHECK.due("spent in the next minute", x.spent(0), 1);
        CHECK.due("strength in the end", Check.told("person 0 2;thing 0 1;").pounds(0, 119, 1), 0);
        CHECK.due("not spent in the end", Check.told("person 0 2;thing 0 1;").spent(0), -1);
        WeighedHall y = Check.told("person 0 2;thing 0 1;door 1;outside 0 20 0 99;");
        CHECK.due("spent in the very last minute", y.spent(0), 119);
        CHECK.due("and not ahead of it", y.holds(0, 118), 0);
    }

    private static void comingIn() {
        WeighedHall x = Check.told("person 0 1;thing 0 60;door 1;outside 0 2 0 0;");
        CHECK.due("outside", x.holds(1, 1), -2);
        CHECK.due("onto the floor of one who is spent", x.holds(1, 2), -1);
        WeighedHall y = Check.told("person 0 1;door 1;outside 0 99 0 99;");
        CHECK.due("outside to the end", y.holds(0, 119), -2);
        CHECK.due("outside to the end", y.sums(119, 2), 99);
        WeighedHall z = Check.told("person 0 1;door 99;outside 0 1 0 99;outside 0 1 0 0;");
        CHECK.due("the door keeps the order told", z.holds(1, 100), -2);
        CHECK.due("the door keeps the order told", z.holds(1, 101), 0);
    }

    private static void lendingAndGivingBack() {
        String hall = "person 0 99;person 0 99;person 0 99;thing 0 2;door 1;outside 0 4 0 0;";
        lent(hall, "lend 0 1 1 5;", 0, "0 0 1 1 4 1 5 0");
        lent(hall, "lend 0 1 0 5;lend 0 2 2 9;", 0, "2 1 4 1 5 0 8 0");
        lent(hall, "lend 0 2 5 9;lend 0 1 0 5;", 0, "4 1 5 2 8 2 9 0");
        lent(hall, "lend 0 1 0 5;lend 0 2 0 6;", 0, "0 1 5 0 6 0");
        lent(hall, "lend 0 2 0 6;lend 0 1 0 5;", 0, "0 2 5 2 6 0");
        lent(hall, "lend 0 1 0 10;lend 0 1 3 5;", 0, "5 1 9 1 10 0");
        lent(hall, "lend 0 1 119 120;", 0, "118 0 119 1");
        lent(hall, "lend 1 1 3 9;", 1, "3 -2 4 0 9 0");
        lent(hall, "lend 1 1 4 9;", 1, "3 -2 4 1 8 1 9 0");
        WeighedHall x = Check.told(hall);
        Check.lend(x, "lend 0 1 1 5;");
        CHECK.due("pounds of whom it was lent to", x.pounds(1, 1, 0), 2);
        CHECK.due("strength of whom it was lent to", x.pounds(1, 5, 1), 60 * 99 - 8);
        CHECK.due("strength of the owner", x.pounds(0, 1, 1), 60 * 99 - 2);
    }

    private static void lendingAndTheSpent() {
        lent("person 0 9;person 0 1;thing 0 20;", "lend 0 1 0 10;", 0, "2 1 3 -1 10 -1");
        lent("person 0 9;person 0 1;thing 0 20;thing 1 61;", "lend 0 1 1 5;", 0, "0 0 1 0");
        lent("person 0 9;person 0 1;thing 0 20;thing 1 61;", "lend 0 1 0 5;", 0, "0 -1");
        lent("person 0 1;person 0 9;thing 0 5;thing 0 61;", "lend 0 1 0 3;", 0, "0 1 2 1 3 -1");
    }

    /** Who holds a thing: pairs of a minute and who it is. */
    private static void lent(String hall, String lendings, int thing, String pairs) {
        WeighedHall x = Check.told(hall);
        Check.lend(x, lendings);
        String[] numbers = pairs.split(" ");
        for (int i = 0; i < numbers.length; i += 2) {
            int minute = Integer.parseInt(numbers[i]);
            CHECK.due(hall + lendings + " holds(" + thing + ", " + minute + ")", x.holds(thing, minute),
                    Integer.parseInt(numbers[i + 1]));
        }
    }

    private static void roots() {
        for (int pounds = 1; pounds <= 14 * 99; pounds += pounds < 130 ? 1 : 97) {
            StringBuilder hall = new StringBuilder("person 0 99;");
            for (int left = pounds; left > 0; left -= 99) {
                hall.append("thing 0 ").append(Math.min(left, 99)).append(';');
            }
            int root = (int) Math.sqrt(pounds);
            CHECK.due("root of " + pounds, Check.told(hall + "motion 0 1 0;").motion(0, 1, 0), root);
        }
        WeighedHall x = Check.told("person 0 99;person 0 99;thing 0 8;thing 1 8;motion 0 3 0;");
        CHECK.due("the root of each, not of all", x.motion(0, 1, 0), 4);
    }

    private static void refusals() {
        WeighedHall x = Check.told(HALL);
        CHECK.noSuch("person(-1, 0)", () -> x.person(-1, 0));
        CHECK.noSuch("person(2, 0)", () -> x.person(2, 0));
        CHECK.noSuch("person(2, 9)", () -> x.person(2, 9));
        CHECK.noSuch("thing(4, 0)", () -> x.thing(4, 0));
        CHECK.noSuch("thing(-1, 0)", () -> x.thing(-1, 0));
        CHECK.noSuch("holds(4, 0)", () -> x.holds(4, 0));
        CHECK.noSuch("holds(4, 120)", () -> x.holds(4, 120));
        CHECK.noSuch("pounds(2, 0, 0)", () -> x.pounds(2, 0, 0));
        CHECK.noSuch("spent(2)", () -> x.spent(2));
        CHECK.noSuch("spent(-1)", () -> x.spent(-1));
        CHECK.noSuch("motion(4, 0, 0)", () -> x.motion(4, 0, 0));
        CHECK.noSuch("motion(-1, 3, 0)", () -> x.motion(-1, 3, 0));
        CHECK.due("status(0)", x.status(0), 12);
        CHECK.illegal("person(0, 3)", () -> x.person(0, 3));
        CHECK.illegal("person(0, -1)", () -> x.person(0, -1));
        CHECK.illegal("thing(0, 4)", () -> x.thing(0, 4));
        CHECK.illegal("thing(0, -1)", () -> x.thing(0, -1));
        CHECK.illegal("holds(0, 120)", () -> x.holds(0, 120));
        CHECK.illegal("holds(0, -1)", () -> x.holds(0, -1));
        CHECK.illegal("pounds(0, 120, 0)", () -> x.pounds(0, 120, 0));
        CHECK.illegal("pounds(0, -1, 0)", () -> x.pounds(0, -1, 0));
        CHECK.illegal("pounds(0, 0, 2)", () -> x.pounds(0, 0, 2));
        CHECK.illegal("pounds(0, 0, -1)", () -> x.pounds(0, 0, -1));
        CHECK.illegal("motion(0, 3, 0)", () -> x.motion(0, 3, 0));
        CHECK.illegal("motion(0, -1, 0)", () -> x.motion(0, -1, 0));
        CHECK.illegal("motion(0, 0, 3)", () -> x.motion(0, 0, 3));
        CHECK.illegal("motion(0, 0, -1)", () -> x.motion(0, 0, -1));
        CHECK.illegal("passes(3)", () -> x.passes(3));
        CHECK.illegal("passes(-1)", () -> x.passes(-1));
        CHECK.illegal("unlike(3, 0)", () -> x.unlike(3, 0));
        CHECK.illegal("unlike(0, -1)", () -> x.unlike(0, -1));
        CHECK.illegal("sums(120, 0)", () -> x.sums(120, 0));
        CHECK.illegal("sums(-1, 0)", () -> x.sums(-1, 0));
        CHECK.illegal("sums(0, 3)", () -> x.sums(0, 3));
        CHECK.illegal("sums(0, -1)", () -> x.sums(0, -1));
        CHECK.due("status(1)", x.status(1), 22);
        CHECK.due("status(0)", x.status(0), 12);
    }
}
