/** The boundary cases of a sitting ("==== 2.") and of promises 7 to 15, sentence by sentence. */
public final class EdgesOfSittingTest {
    private static final Check CHECK = new Check();
    private static final int FLOOR = -1;
    private static final int OUTSIDE = -2;
    private static final int NONE = -1;

    public static void main(String[] args) {
        minutes();
        atFirst();
        comingIn();
        comingToOneSpent();
        oneAtATime();
        roundedUp();
        goingBack();
        goingBackToOneSpent();
        goingBackIfStillHeld();
        goingBackAheadOfLending();
        lendingInOrder();
        lendingIfTheOwnerHolds();
        lendingIfNotSpent();
        spentBelowZero();
        allOnTheFloorForGood();
        theTenthOfFourteen();
        pounds();
        roots();
        heads();
        countMore();
        person();
        thing();
        holds();
        strength();
        spent();
        motion();
        passesAndUnlike();
        sums();
        CHECK.end("EdgesOfSittingTest");
    }

    private static WeighedHall told(String hall, String lendings) {
        WeighedHall x = Check.told(hall);
        if (!lendings.isEmpty() && Check.lend(x, lendings) < 0) {
            throw new IllegalStateException("the test's own lendings have a fault at " + x.fault() + ": " + lendings);
        }
        return x;
    }

    /** Who holds a thing: pairs of a minute and who it is. */
    private static void held(WeighedHall x, int thing, int... pairs) {
        for (int i = 0; i + 1 < pairs.length; i += 2) {
            CHECK.due("holds(" + thing + ", " + pairs[i] + ")", x.holds(thing, pairs[i]), pairs[i + 1]);
        }
    }

    private static void minutes() {
        CHECK.says("A SITTING goes MINUTE by MINUTE, 0 to 119");
        String two = "person 0 99;person 1 99;thing 0 5;";
        held(told(two, "lend 0 1 0 1;"), 0, 0, 1, 1, 0);
        held(told(two, "lend 0 1 119 120;"), 0, 118, 0, 119, 1);
        held(told(two, "lend 0 1 0 120;"), 0, 0, 1, 119, 1);
        held(told(two, "lend 0 1 0 119;"), 0, 118, 1, 119, 0);
        CHECK.due("spent in minute 0", Check.told("person 0 1;thing 0 61;").spent(0), 0);
        WeighedHall last = Check.told("person 0 2;thing 0 1;door 1;outside 0 20 0 99;");
        CHECK.due("spent in minute 119", last.spent(0), 119);
        held(last, 0, 118, 0, 119, FLOOR);
        WeighedHall never = Check.told("person 0 2;thing 0 1;");
        CHECK.due("no strength left behind minute 119", never.pounds(0, 119, 1), 0);
        CHECK.due("there is no minute 120 to be spent in", never.spent(0), NONE);
        held(Check.told("person 0 99;door 1;outside 0 20 0 99;"), 0, 118, OUTSIDE, 119, 0);
        held(Check.told("person 0 99;door 1;outside 0 21 0 99;"), 0, 118, OUTSIDE, 119, OUTSIDE);
        WeighedHall motions = Check.told("person 0 2;thing 0 1;door 1;outside 0 7 0 99;motion 0 1 0;motion 119 1 0;motion 105 1 0;");
        CHECK.due("a motion of minute 0", motions.motion(0, 0, 0), 1);
        CHECK.due("a motion ahead of what comes in minute 106", motions.motion(2, 0, 0), 1);
        CHECK.due("a motion of minute 119", motions.motion(1, 0, 0), 0);
    }

    private static void atFirst() {
        CHECK.says("At first each PERSON holds his own (those not outside), and has 60 times A of STRENGTH");
        WeighedHall x = Check.told("person 0 1;person 0 99;person 0 7;thing 0 60;thing 1 99;door 99;outside 2 1 0 0;");
        held(x, 0, 0, 0);
        held(x, 1, 0, 1);
        held(x, 2, 0, OUTSIDE);
        CHECK.due("60 times 1, less 60", x.pounds(0, 0, 1), 0);
        CHECK.due("60 times 99, less 99", x.pounds(1, 0, 1), 5841);
        CHECK.due("60 times 7, less nothing", x.pounds(2, 0, 1), 420);
        CHECK.due("one who holds nothing", Check.told("person 0 1;").pounds(0, 119, 1), 60);
    }

    private static void comingIn() {
        CHECK.says("THINGS from outside that are through come to their OWNERS");
        WeighedHall x = told("person 0 99;person 0 99;door 5;outside 1 5 0 0;", "");
        held(x, 0, 0, OUTSIDE, 1, 1);
        CHECK.due("it is carried in the minute in which it came", x.pounds(1, 1, 1), 5935);
        held(told("person 0 99;person 0 99;door 5;outside 1 5 0 3;", "lend 0 0 4 6;"), 0, 3, OUTSIDE, 4, 0, 5, 0, 6, 1);
    }

    private static void comingToOneSpent() {
        CHECK.says("come to their OWNERS (onto the FLOOR, if he is SPENT)");
        WeighedHall x = Check.told("person 0 1;thing 0 60;door 1;outside 0 1 0 0;outside 0 1 0 0;outside 0 1 0 0;");
        CHECK.due("spent", x.spent(0), 1);
        held(x, 1, 0, OUTSIDE, 1, FLOOR);
        CHECK.due("what came in his last minute weighed with the rest", x.pounds(0, 119, 1), -61);
        held(x, 2, 1, OUTSIDE, 2, FLOOR, 119, FLOOR);
        held(x, 3, 2, OUTSIDE, 3, FLOOR);
    }

    private static void through(String hall, int... due) {
        WeighedHall x = Check.told(hall);
        for (int t = 0; t < due.length; t++) {
            CHECK.due(hall + " thing(" + t + ", 3)", x.thing(t, 3), due[t]);
        }
    }

    private static void oneAtATime() {
        CHECK.says("A DOOR takes its THINGS in the order told, one at a time: from S, or when the one ahead is through");
        String two = "person 0 99;door 1;door 2;";
        through(two + "outside 0 5 0 0;outside 0 3 0 0;", 5, 8);
        through(two + "outside 0 5 0 0;outside 0 3 0 4;", 5, 8);
        through(two + "outside 0 5 0 0;outside 0 3 0 5;", 5, 8);
        through(two + "outside 0 5 0 0;outside 0 3 0 6;", 5, 9);
        through(two + "outside 0 5 0 9;outside 0 3 0 0;", 14, 17);
        through(two + "outside 0 5 0 0;outside 0 6 1 0;outside 0 1 0 0;outside 0 1 1 0;", 5, 3, 6, 4);
        through("person 0 1;door 1;" + "outside 0 99 0 99;".repeat(14), 198, 297, 396, 495, 594, 693, 792, 891, 990, 1089,
                1188, 1287, 1386, 1485);
    }

    private static void roundedUp() {
        CHECK.says("it is through W by C MINUTES later (rounded up)");
        int[][] rows = {{1, 1, 1}, {1, 99, 1}, {99, 1, 99}, {99, 99, 1}, {98, 99, 1}, {99, 98, 2}, {10, 5, 2}, {11, 5, 3},
            {9, 5, 2}, {99, 2, 50}};
        for (int[] row : rows) {
            through("person 0 1;door " + row[1] + ";outside 0 " + row[0] + " 0 0;", row[2]);
            through("person 0 1;door " + row[1] + ";outside 0 " + row[0] + " 0 99;", 99 + row[2]);
        }
    }

    private static void goingBack() {
        CHECK.says("THINGS lent whose E it is go back to the OWNER");
        String three = "person 0 99;person 0 99;person 0 99;thing 0 5;thing 2 7;";
        WeighedHall x = told(three, "lend 0 1 3 5;lend 1 1 4 5;");
        held(x, 0, 2, 0, 3, 1, 4, 1, 5, 0);
        held(x, 1, 3, 2, 4, 1, 5, 2);
        CHECK.due("what the owner carries in the minute E", x.pounds(0, 5, 0), 5);
        CHECK.due("what the other carries in the minute E", x.pounds(1, 5, 0), 0);
        CHECK.due("strength of the other", x.pounds(1, 5, 1), 5940 - 5 - 12);
        held(told(three, "lend 0 1 3 4;lend 0 2 4 5;"), 0, 3, 1, 4, 2, 5, 0);
    }

    private static void goingBackToOneSpent() {
        CHECK.says("go back to the OWNER (FLOOR, if he is SPENT)");
        String weak = "person 0 1;person 0 99;thing 0 5;thing 0 20;";
        WeighedHall x = told(weak, "lend 0 1 0 4;");
        CHECK.due("the owner is spent", x.spent(0), 3);
        held(x, 0, 3, 1, 4, FLOOR, 119, FLOOR);
        held(told(weak, "lend 0 1 0 3;"), 0, 2, 1, 3, FLOOR);
        CHECK.due("he had it in the minute in which he was spent", told(weak, "lend 0 1 0 3;").pounds(0, 3, 1), -25);
        CHECK.due("he had it not", x.pounds(0, 3, 1), -20);
        held(told(weak, "lend 0 1 0 120;"), 0, 4, 1, 119, 1);
    }

    private static void goingBackIfStillHeld() {
        CHECK.says("go back, if still held by whom they were lent to");
        WeighedHall x = told("person 0 99;person 0 1;thing 0 31;", "lend 0 1 0 9;");
        CHECK.due("the other is spent", x.spent(1), 1);
        held(x, 0, 0, 1, 1, FLOOR, 9, FLOOR, 10, FLOOR);
        held(told("person 0 99;person 0 99;person 0 99;thing 0 5;", "lend 0 1 0 9;lend 0 2 3 5;"), 0, 5, 1, 8, 1, 9, 0);
        held(told("person 0 99;person 0 99;thing 0 5;", "lend 0 1 0 9;lend 0 1 3 5;"), 0, 5, 1, 8, 1, 9, 0);
    }

    private static void goingBackAheadOfLending() {
        CHECK.says("In each MINUTE: (a), (b), (c), (d), (e)");
        String three = "person 0 99;person 0 99;person 0 99;thing 0 5;motion 4 2 4;";
        WeighedHall x = told(three, "lend 0 2 4 6;lend 0 1 2 4;");
        held(x, 0, 3, 1, 4, 2, 5, 2, 6, 0);
        CHECK.due("motions behind lendings", x.motion(0, 0, 1), 5);
        WeighedHall y = told("person 0 99;person 0 1;thing 0 61;motion 4 2 0;", "lend 0 1 4 6;");
        CHECK.due("motions behind those who are spent", y.motion(0, 0, 0), 0);
        WeighedHall z = told("person 0 99;person 0 99;door 1;outside 0 4 0 0;motion 4 1 2;", "lend 0 1 4 6;");
        CHECK.due("lendings behind what comes in", z.motion(0, 0, 1), 4);
    }

    private static void lendingInOrder() {
        CHECK.says("LENDINGS of this MINUTE, in their order");
        String three = "person 0 99;person 0 99;person 0 99;thing 0 5;";
        held(told(three, "lend 0 1 2 4;lend 0 2 2 6;"), 0, 2, 1, 4, 0, 6, 0);
        held(told(three, "lend 0 2 2 6;lend 0 1 2 4;"), 0, 2, 2, 4, 2, 6, 0);
        held(told(three, "lend 0 2 9 10;lend 0 1 2 4;"), 0, 2, 1, 4, 0, 9, 2, 10, 0);
    }

    private static void lendingIfTheOwnerHolds() {
        CHECK.says("if the OWNER holds it");
        String three = "person 0 99;person 0 99;person 0 99;thing 0 5;";
        held(told(three, "lend 0 1 2 8;lend 0 2 4 6;"), 0, 4, 1, 6, 1, 7, 1, 8, 0);
        held(told(three, "lend 0 1 2 4;lend 0 2 4 6;"), 0, 3, 1, 4, 2);
        held(told(three, "lend 0 1 2 5;lend 0 2 4 6;"), 0, 4, 1, 5, 0, 6, 0);
        String outside = "person 0 99;person 0 99;door 1;outside 0 5 0 0;";
        held(told(outside, "lend 0 1 4 9;"), 0, 4, OUTSIDE, 5, 0, 8, 0);
        held(told(outside, "lend 0 1 5 9;"), 0, 4, OUTSIDE, 5, 1, 8, 1, 9, 0);
        held(told("person 0 1;person 0 99;thing 0 60;", "lend 0 1 2 9;"), 0, 0, 0, 1, FLOOR, 2, FLOOR);
        held(told("person 0 1;person 0 99;thing 0 60;", "lend 0 1 1 9;"), 0, 0, 0, 1, 1, 8, 1, 9, FLOOR);
    }

    private static void lendingIfNotSpent() {
        CHECK.says("and Y is not SPENT, Y holds it");
        String weak = "person 0 99;person 0 1;thing 0 5;thing 1 60;";
        held(told(weak, "lend 0 1 2 9;"), 0, 1, 0, 2, 0);
        held(told(weak, "lend 0 1 1 9;"), 0, 0, 0, 1, FLOOR, 9, FLOOR);
        CHECK.due("the lending that spends him", told(weak, "lend 0 1 0 9;").spent(1), 0);
        CHECK.due("he is spent by his own", told(weak, "").spent(1), 1);
    }

    private static void spentBelowZero() {
        CHECK.says("if that is below 0, he is SPENT");
        WeighedHall even = Check.told("person 0 1;thing 0 30;");
        CHECK.due("strength of 0", even.pounds(0, 1, 1), 0);
        held(even, 0, 1, 0, 2, FLOOR);
        CHECK.due("spent in the next minute", even.spent(0), 2);
        WeighedHall odd = Check.told("person 0 1;thing 0 31;");
        CHECK.due("strength below 0", odd.pounds(0, 1, 1), -2);
        CHECK.due("spent in that minute", odd.spent(0), 1);
        WeighedHall one = Check.told("person 0 1;thing 0 61;");
        CHECK.due("strength of -1", one.pounds(0, 0, 1), -1);
        CHECK.due("spent in minute 0", one.spent(0), 0);
        CHECK.due("nothing held, nothing spent", Check.told("person 0 1;").spent(0), NONE);
        String lent = "person 0 1;person 0 99;thing 0 60;";
        WeighedHall at0 = told(lent, "lend 0 1 1 120;");
        CHECK.due("strength of 0, nothing held", at0.pounds(0, 119, 1), 0);
        CHECK.due("not spent", at0.spent(0), NONE);
    }

    private static void allOnTheFloorForGood() {
        CHECK.says("all he holds is on the FLOOR, for good, and he holds nothing any more");
        WeighedHall x = told("person 0 99;person 0 1;person 0 99;thing 1 10;thing 1 20;thing 0 31;door 1;outside 1 5 0 0;",
                "lend 2 1 0 5;lend 0 2 3 6;lend 2 2 7 9;lend 2 1 8 9;");
        CHECK.due("spent", x.spent(1), 0);
        for (int t = 0; t < 3; t++) {
            held(x, t, 0, FLOOR, 3, FLOOR, 5, FLOOR, 7, FLOOR, 119, FLOOR);
        }
        held(x, 3, 4, OUTSIDE, 5, FLOOR);
        CHECK.due("pounds", x.pounds(1, 0, 0), 0);
        CHECK.due("pounds", x.pounds(1, 119, 0), 0);
        CHECK.due("the owner of what was lent holds nothing", x.pounds(0, 119, 0), 0);
        WeighedHall away = told("person 0 1;person 0 99;thing 0 5;thing 0 61;", "lend 0 1 0 50;");
        CHECK.due("the owner is spent", away.spent(0), 0);
        held(away, 0, 0, 1, 49, 1, 50, FLOOR);
    }

    private static void theTenthOfFourteen() {
        CHECK.says("PERSONS, 10 at most; THINGS, 14 at most");
        String full = "person 0 99;".repeat(9) + "person 0 1;door 1;" + "thing 9 5;".repeat(12) + "outside 9 7 0 0;outside 0 9 0 0;";
        WeighedHall x = told(full, "lend 13 9 16 20;");
        CHECK.due("the tenth person has no strength left", x.pounds(9, 0, 1), 0);
        CHECK.due("he is spent", x.spent(9), 1);
        CHECK.due("his strength", x.pounds(9, 119, 1), -60);
        held(x, 11, 0, 9, 1, FLOOR);
        held(x, 12, 6, OUTSIDE, 7, FLOOR);
        held(x, 13, 15, OUTSIDE, 16, 0, 17, 0);
        CHECK.due("pounds of the first", x.pounds(0, 16, 0), 9);
        CHECK.due("pounds of the tenth", x.pounds(9, 16, 0), 0);
        WeighedHall last = Check.told("person 0 1;".repeat(9) + "person 0 99;" + "thing 0 1;".repeat(13) + "thing 9 8;motion 119 512 1;");
        CHECK.due("the last thing", last.holds(13, 119), 9);
        CHECK.due("pounds of the tenth", last.pounds(9, 119, 0), 8);
        CHECK.due("strength of the tenth", last.pounds(9, 119, 1), 5940 - 960);
        CHECK.due("what the tenth counts", last.motion(0, 0, 0), 8);
    }

    private static void counted(String hall, int motion, int law, int f, int g, int passes) {
        WeighedHall x = Check.told(hall);
        CHECK.due(hall + " for by " + law, x.motion(motion, law, 0), f);
        CHECK.due(hall + " against by " + law, x.motion(motion, law, 1), g);
        CHECK.due(hall + " passes by " + law, x.motion(motion, law, 2), passes);
    }

    private static void pounds() {
        CHECK.says("each PERSON counts by LAW: 0 his pounds");
        counted("person 0 99;person 0 99;person 0 99;thing 0 4;thing 1 5;thing 2 9;motion 0 3 4;", 0, 0, 9, 9, 0);
        counted("person 0 99;person 0 99;person 0 99;thing 0 4;thing 1 6;thing 2 9;motion 0 3 4;", 0, 0, 10, 9, 1);
        String full = "person 0 99;person 0 99;" + "thing 0 99;".repeat(7) + "thing 1 99;".repeat(7) + "motion 0 1 2;motion 0 3 0;";
        counted(full, 0, 0, 693, 693, 0);
        counted(full, 1, 0, 1386, 0, 1);
        counted("person 0 1;thing 0 61;motion 0 1 0;", 0, 0, 0, 0, 0);
    }

    private static void roots() {
        CHECK.says("1 the greatest whole number whose square is not above them");
        for (int root = 1; root * root <= 14 * 99; root++) {
            for (int pounds = root * root - 1; pounds <= root * root + 1; pounds++) {
                StringBuilder hall = new StringBuilder("person 0 99;");
                for (int left = pounds; left > 0; left -= 99) {
                    hall.append("thing 0 ").append(Math.min(left, 99)).append(';');
                }
                int due = pounds < root * root ? root - 1 : root;
                CHECK.due("root of " + pounds, Check.told(hall + "motion 0 1 0;").motion(0, 1, 0), due);
            }
        }
        counted("person 0 99;" + "thing 0 99;".repeat(14) + "motion 0 1 0;", 0, 1, 37, 0, 1);
        counted("person 0 99;person 0 99;person 0 99;thing 0 3;thing 1 3;thing 2 8;motion 0 3 4;", 0, 1, 2, 2, 0);
        counted("person 0 1;thing 0 61;motion 0 1 0;", 0, 1, 0, 0, 0);
    }

    private static void heads() {
        CHECK.says("2 one");
        counted("person 0 1;motion 0 1 0;", 0, 2, 1, 0, 1);
        counted("person 0 1;person 0 1;thing 0 61;motion 0 1 2;motion 0 3 0;", 0, 2, 1, 1, 0);
        counted("person 0 1;person 0 1;thing 0 61;motion 0 1 2;motion 0 3 0;", 1, 2, 2, 0, 1);
        counted("person 0 1;".repeat(10) + "motion 5 1023 0;motion 5 0 1023;", 0, 2, 10, 0, 1);
        counted("person 0 1;".repeat(10) + "motion 5 1023 0;motion 5 0 1023;", 1, 2, 0, 10, 0);
        counted("motion 0 0 0;", 0, 2, 0, 0, 0);
    }

    private static void countMore() {
        CHECK.says("it PASSES, if those for it count more than those against it");
        for (int law = 0; law <= 2; law++) {
            counted("motion 0 0 0;", 0, law, 0, 0, 0);
        }
        counted("person 0 9;thing 0 1;motion 0 1 0;", 0, 0, 1, 0, 1);
        counted("person 0 9;thing 0 1;motion 0 0 1;", 0, 0, 0, 1, 0);
        counted("person 0 9;person 0 9;thing 0 8;thing 1 7;motion 0 1 2;", 0, 0, 8, 7, 1);
        counted("person 0 9;person 0 9;thing 0 7;thing 1 7;motion 0 1 2;", 0, 0, 7, 7, 0);
        counted("person 0 9;person 0 9;thing 0 7;thing 1 8;motion 0 1 2;", 0, 0, 7, 8, 0);
        counted("person 0 9;person 0 9;thing 0 4;thing 1 3;motion 0 1 2;", 0, 1, 2, 1, 1);
        counted("person 0 9;person 0 9;thing 0 8;thing 1 4;motion 0 1 2;", 0, 1, 2, 2, 0);
        counted("person 0 9;person 0 9;person 0 9;motion 0 5 2;", 0, 2, 2, 1, 1);
        counted("person 0 9;person 0 9;motion 0 1 2;", 0, 2, 1, 1, 0);
    }

    private static void person() {
        CHECK.says("Of a PERSON: 0 PARTY, 1 ARM, 2 pounds of all own THINGS");
        WeighedHall x = told("person 0 1;person 3 99;thing 1 99;door 1;outside 1 98 0 99;", "lend 0 0 0 120;");
        CHECK.due("the least party", x.person(0, 0), 0);
        CHECK.due("the greatest party", x.person(1, 0), 3);
        CHECK.due("the least arm", x.person(0, 1), 1);
        CHECK.due("the greatest arm", x.person(1, 1), 99);
        CHECK.due("none of his own, though lent to", x.person(0, 2), 0);
        CHECK.due("lent and outside", x.person(1, 2), 197);
        CHECK.due("all of a full hall", Check.told("person 0 1;" + "thing 0 99;".repeat(14)).person(0, 2), 1386);
        CHECK.due("on the floor", Check.told("person 0 1;thing 0 99;").person(0, 2), 99);
    }

    private static void thing() {
        CHECK.says("Of a THING: 0 OWNER, 1 W, 2 DOOR (NONE: inside), 3 the MINUTE at which it is through (0: inside)");
        WeighedHall x = told("person 0 1;person 0 99;thing 1 99;door 9;door 9;door 1;outside 0 1 0 0;outside 1 99 2 99;",
                "lend 0 0 0 120;");
        int[][] due = {{1, 99, -1, 0}, {0, 1, 0, 1}, {1, 99, 2, 198}};
        for (int t = 0; t < due.length; t++) {
            for (int what = 0; what <= 3; what++) {
                CHECK.due("thing(" + t + ", " + what + ")", x.thing(t, what), due[t][what]);
            }
        }
    }

    private static void holds() {
        CHECK.says("Who holds a THING behind a MINUTE (0 to 119); NONE: the FLOOR; -2: outside");
        WeighedHall x = Check.told("person 0 1;person 0 1;thing 1 60;door 1;outside 1 1 0 0;outside 0 99 0 99;");
        held(x, 0, 0, 1, 1, -1, 119, -1);
        held(x, 1, 0, -2, 1, -1);
        held(x, 2, 0, -2, 119, -2);
        CHECK.illegal("holds(0, -1)", () -> x.holds(0, -1));
        CHECK.illegal("holds(0, 120)", () -> x.holds(0, 120));
    }

    private static void strength() {
        CHECK.says("Of a PERSON behind a MINUTE: 0 pounds, 1 STRENGTH (as it was last, if SPENT)");
        WeighedHall x = Check.told("person 0 1;thing 0 25;door 1;outside 0 9 0 0;");
        int[] strengths = {35, 10, -15, -15, -15};
        for (int minute = 0; minute < strengths.length; minute++) {
            CHECK.due("pounds(0, " + minute + ", 0)", x.pounds(0, minute, 0), minute < 2 ? 25 : 0);
            CHECK.due("pounds(0, " + minute + ", 1)", x.pounds(0, minute, 1), strengths[minute]);
        }
        CHECK.due("pounds(0, 9, 0)", x.pounds(0, 9, 0), 0);
        CHECK.due("pounds(0, 119, 1)", x.pounds(0, 119, 1), -15);
        CHECK.due("the least strength", Check.told("person 0 1;" + "thing 0 99;".repeat(14)).pounds(0, 119, 1), 60 - 1386);
    }

    private static void spent() {
        CHECK.says("The MINUTE in which a PERSON is SPENT; NONE");
        WeighedHall x = Check.told("person 0 1;person 0 1;person 0 1;thing 0 61;thing 1 1;");
        CHECK.due("in minute 0", x.spent(0), 0);
        CHECK.due("in minute 60", x.spent(1), 60);
        CHECK.due("never", x.spent(2), NONE);
    }

    private static void motion() {
        CHECK.says("Of a MOTION by a LAW: 0 what those for it count, 1 against it, 2 whether it PASSES (1, 0)");
        String eight = "person 0 99;person 0 99;thing 0 10;thing 1 9;" + "motion 0 1 2;motion 119 2 1;".repeat(4);
        WeighedHall x = Check.told(eight);
        int[][] due = {{10, 9, 1}, {3, 3, 0}, {1, 1, 0}};
        for (int law = 0; law <= 2; law++) {
            CHECK.due("the first motion, for", x.motion(0, law, 0), due[law][0]);
            CHECK.due("the first motion, against", x.motion(0, law, 1), due[law][1]);
            CHECK.due("the first motion, passes", x.motion(0, law, 2), due[law][2]);
            CHECK.due("the last motion, for", x.motion(7, law, 0), due[law][1]);
            CHECK.due("the last motion, against", x.motion(7, law, 1), due[law][0]);
            CHECK.due("the last motion, passes", x.motion(7, law, 2), 0);
            CHECK.due("the hall's law counts not here", Check.told(eight + "law 2;").motion(0, law, 0), due[law][0]);
        }
        CHECK.noSuch("motion(8, 0, 0)", () -> x.motion(8, 0, 0));
    }

    private static void passesAndUnlike() {
        CHECK.says("MOTIONS that PASS by a LAW, as bits; how many end otherwise by one LAW than by another one");
        String two = "person 0 99;person 0 99;person 0 99;thing 0 10;thing 1 1;thing 2 8;";
        WeighedHall all = Check.told(two + "motion 119 1 2;".repeat(8));
        CHECK.due("passes(0)", all.passes(0), 255);
        CHECK.due("passes(1)", all.passes(1), 255);
        CHECK.due("passes(2)", all.passes(2), 0);
        CHECK.due("unlike(0, 1)", all.unlike(0, 1), 0);
        CHECK.due("unlike(1, 2)", all.unlike(1, 2), 8);
        CHECK.due("unlike(2, 0)", all.unlike(2, 0), 8);
        CHECK.due("unlike of a law with itself", all.unlike(0, 0), 0);
        WeighedHall last = Check.told(two + "motion 0 0 0;".repeat(7) + "motion 0 6 1;");
        CHECK.due("the last motion by pounds", last.passes(0), 0);
        CHECK.due("the last motion by roots", last.passes(1), 0);
        CHECK.due("the last motion by heads", last.passes(2), 128);
        CHECK.due("unlike(0, 2)", last.unlike(0, 2), 1);
        CHECK.due("no motions", Check.told(two).passes(2), 0);
        CHECK.due("no motions", Check.told(two).unlike(0, 2), 0);
        CHECK.due("no hall", new WeighedHall().passes(0), 0);
    }

    private static void sums() {
        CHECK.says("Pounds on the FLOOR behind a MINUTE (what 0), held (1), outside (2)");
        WeighedHall x = told("person 0 1;person 0 99;thing 0 60;thing 1 7;door 1;outside 1 9 0 0;outside 1 99 0 99;",
                "lend 1 0 9 10;");
        int[][] due = {{0, 0, 67, 108}, {1, 60, 7, 108}, {8, 60, 7, 108}, {9, 60, 16, 99}, {119, 60, 16, 99}};
        for (int[] row : due) {
            for (int what = 0; what <= 2; what++) {
                CHECK.due("sums(" + row[0] + ", " + what + ")", x.sums(row[0], what), row[what + 1]);
            }
        }
        for (int what = 0; what <= 2; what++) {
            CHECK.due("an empty hall", new WeighedHall().sums(0, what), 0);
        }
        CHECK.due("all outside", Check.told("person 0 1;door 1;" + "outside 0 99 0 99;".repeat(14)).sums(119, 2), 1386);
        CHECK.due("all held", Check.told("person 0 99;" + "thing 0 99;".repeat(14)).sums(0, 1), 1386);
        CHECK.due("all dropped", Check.told("person 0 1;" + "thing 0 99;".repeat(14)).sums(0, 0), 1386);
    }
}
