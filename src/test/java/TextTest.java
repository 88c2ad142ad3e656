/** Promises 1 to 6: a new object, the tape, the two texts and their faults, what was told. */
public final class TextTest {
    private static final Check CHECK = new Check();

    public static void main(String[] args) {
        aNewObject();
        theTape();
        wordsAndStops();
        numbersOfAHall();
        tooMany();
        leastOfOnePlace();
        numbersOfLendings();
        aFaultChangesNothing();
        aHallClearsTheRest();
        hallsOneBehindTheOther();
        textsShorterThanTheTape();
        CHECK.end("TextTest");
    }

    private static void aNewObject() {
        WeighedHall x = new WeighedHall();
        for (int what = 0; what <= 5; what++) {
            CHECK.due("told of a new object", x.told(what), 0);
        }
        CHECK.due("fault of a new object", x.fault(), -1);
        CHECK.due("count of a new object", x.count(0) + x.count(1) + x.count(2), 0);
        CHECK.illegal("told(-1)", () -> x.told(-1));
        CHECK.illegal("told(6)", () -> x.told(6));
        CHECK.due("status(1)", x.status(1), 2);
        CHECK.due("status(0)", x.status(0), 0);
        CHECK.due("NONE", WeighedHall.NONE, -1);
    }

    private static void theTape() {
        WeighedHall x = new WeighedHall();
        for (int i = 1; i <= 30; i++) {
            CHECK.due("feed " + i, x.feed(0x20202020, 0x20202020, 0x20202020, 0x20202020, 0x20202020), 20 * i);
        }
        CHECK.due("feed of a full tape", x.feed(1, 2, 3, 4, 5), -1);
        CHECK.due("bytes of a full tape", x.count(2), 600);
        CHECK.illegal("hall(601)", () -> x.hall(601));
        CHECK.illegal("hall(-1)", () -> x.hall(-1));
        CHECK.illegal("lend(301)", () -> x.lend(301));
        CHECK.due("the tape stays behind a refusal", x.count(2), 600);
        CHECK.due("lend(300)", x.lend(300), 0);
        CHECK.due("the tape is empty behind lend", x.count(2), 0);
        CHECK.illegal("lend(1) of an empty tape", () -> x.lend(1));
        Check.feed(x, "law 1;");
        CHECK.due("hall of fewer bytes than came", x.hall(6), 0);
        CHECK.due("law", x.told(5), 1);
        CHECK.due("the tape is empty behind hall", x.count(2), 0);
        CHECK.due("highest byte first", Check.hall(x, "law 2;"), 0);
        CHECK.due("law", x.told(5), 2);
        Check.feed(x, " ".repeat(594) + "law 1;");
        CHECK.due("a hall of 600 bytes", x.hall(600), 0);
        CHECK.due("law at the end of 600 bytes", x.told(5), 1);
    }

    private static void wordsAndStops() {
        hallFault("laws 1;", 1, 0);
        hallFault("  lawx 1;", 1, 2);
        hallFault("Law 1;", 1, 0);
        hallFault("lawX 1;", 1, 3);
        hallFault("lawz 1;", 1, 0);
        hallFault("alaw 1;", 1, 0);
        hallFault(";", 1, 0);
        hallFault("law 1;;", 1, 6);
        hallFault("law 1", 1, 5);
        hallFault("law 1  ", 1, 7);
        hallFault("law", 1, 3);
        hallFault("la", 1, 0);
        hallFault("law ;", 1, 4);
        hallFault("law 1 law 2;", 1, 6);
        hallFault("law 1 2;", 1, 6);
        hallFault("law -1;", 1, 4);
        hallFault("law\t1;", 1, 3);
        hallFault("law 1;\0", 1, 6);
        hallFault("law 1;" + (char) 233, 1, 6);
        hallFault("1;", 1, 0);
        hallFault("lend 0 1 0 1;", 1, 0);
        hallRight("", 0);
        hallRight("   ", 0);
        hallRight("law1;", 0);
        hallRight("  law   0002  ;  ", 0);
        hallRight("person0 9;person 3 99;thing0 1;thing 1 99;", 2);
    }

    private static void numbersOfAHall() {
        hallFault("person 4 1;", 2, 7);
        hallFault("person 0 0;", 2, 9);
        hallFault("person 0 100;", 2, 9);
        hallFault("person 4294967296 1;", 2, 7);
        hallFault("person 18446744073709551616 1;", 2, 7);
        hallFault("person 4 x;", 2, 7);
        hallFault("thing 0 5;", 2, 6);
        hallFault("person 0 1;thing 1 5;", 2, 17);
        hallFault("person 0 1;thing 0 0;", 2, 19);
        hallFault("person 0 1;thing 0 100;", 2, 19);
        hallFault("door 0;", 2, 5);
        hallFault("door 100;", 2, 5);
        hallFault("person 0 1;door 1;outside 1 5 0 0;", 2, 26);
        hallFault("person 0 1;door 1;outside 0 0 0 0;", 2, 28);
        hallFault("person 0 1;door 1;outside 0 5 1 0;", 2, 30);
        hallFault("person 0 1;door 1;outside 0 5 0 100;", 2, 32);
        hallFault("motion 120 0 0;", 2, 7);
        hallFault("person 0 1;motion 0 2 0;", 2, 20);
        hallFault("person 0 1;motion 0 0 2;", 2, 22);
        hallFault("person 0 1;motion 0 1 1;", 2, 22);
        hallFault("law 3;", 2, 4);
        hallRight("person 3 99;door 99;outside 0 99 0 99;motion 119 1 0;motion 0 0 0;law 2;", 1);
        hallRight("person 00000000000000000000001 00000000000000000000099;", 1);
    }

    private static void tooMany() {
        hallFault("person 0 1;".repeat(11), 3, 110);
        hallFault("person 0 1;".repeat(10) + "  person", 3, 112);
        hallFault("person 0 1;" + "thing 0 1;".repeat(15), 3, 151);
        hallFault("person 0 1;door 1;" + "thing 0 1;".repeat(14) + "outside 0 1 0 0;", 3, 158);
        hallFault("person 0 1;door 1;" + "outside 0 1 0 0;".repeat(14) + "thing 0 1;", 3, 242);
        hallFault("door 1;".repeat(4), 3, 21);
        hallFault("motion 0 0 0;".repeat(9), 3, 104);
        hallFault("law 0;".repeat(61), 3, 360);
        hallRight("law 0;".repeat(60), 0);
        hallRight("person 0 1;".repeat(10) + "thing 9 1;".repeat(14) + "door 1;".repeat(3) + "motion 0 1023 0;".repeat(8),
                10);
        lendFault("lend 0 1 0 1;".repeat(21), 3, 260);
        lendRight("lend 0 1 0 1;".repeat(20), 20);
    }

    private static void leastOfOnePlace() {
        hallFault("law 0;".repeat(60) + "laws", 1, 360);
        hallFault("law 0;".repeat(60) + ";", 1, 360);
        lendFault("lend 0 1 0 1;".repeat(20) + "lent", 1, 260);
    }

    private static void numbersOfLendings() {
        lendFault("lend 1 0 0 1;", 2, 5);
        lendFault("lend 0 2 0 1;", 2, 7);
        lendFault("lend 0 0 0 1;", 2, 7);
        lendFault("lend 0 1 120 121;", 2, 9);
        lendFault("lend 0 1 5 5;", 2, 11);
        lendFault("lend 0 1 5 4;", 2, 11);
        lendFault("lend 0 1 5 121;", 2, 11);
        lendFault("lends 0 1 5 6;", 1, 0);
        lendFault("law 1;", 1, 0);
        lendFault("lend 0 1 5;", 1, 10);
        lendFault("lend 0 1 5 6", 1, 12);
        lendFault("lend 0 1 5 6 ", 1, 13);
        lendFault("lend 0 1 5 6 7;", 1, 13);
        lendRight("", 0);
        lendRight(" lend 0 1 119 120 ; ", 1);
        lendRight("lend0 1 0 120;", 1);
    }

    private static void aFaultChangesNothing() {
        WeighedHall x = Check.told("person 0 1;person 1 1;thing 0 5;law 2;");
        Check.lend(x, "lend 0 1 0 9;");
        x.vote(1, 2, 0);
        x.image();
        CHECK.due("hall with a fault", Check.hall(x, "person 0 1;door 0;"), -8);
        CHECK.due("fault", x.fault(), 16);
        CHECK.due("the tape is empty behind a fault", x.count(2), 0);
        CHECK.due("persons stay", x.told(0), 2);
        CHECK.due("doors stay", x.told(2), 0);
        CHECK.due("lendings stay", x.told(4), 1);
        CHECK.due("law stays", x.told(5), 2);
        CHECK.due("votes stay", x.count(0), 1);
        CHECK.due("images stay", x.count(1), 1);
        CHECK.illegal("hall(1)", () -> x.hall(1));
        CHECK.due("the fault stays behind a refusal", x.fault(), 16);
        CHECK.due("lend with a fault", Check.lend(x, "lend 0 1 0 3;lend 0 1 0 3;lend"), -9);
        CHECK.due("lendings stay", x.told(4), 1);
        CHECK.due("who holds it stays", x.holds(0, 3), 1);
        CHECK.due("fault", x.fault(), 30);
        CHECK.due("restore", x.restore(), 0);
        CHECK.due("restore leaves the fault", x.fault(), 30);
        CHECK.due("lend", Check.lend(x, "lend 0 1 0 3;"), 1);
        CHECK.due("no fault", x.fault(), -1);
        CHECK.due("lendings come in the place of those told", x.holds(0, 3), 0);
    }

    private static void aHallClearsTheRest() {
        WeighedHall x = Check.told("person 0 1;person 1 1;thing 0 5;law 2;");
        Check.lend(x, "lend 0 1 0 9;");
        x.vote(1, 2, 0);
        x.image();
        Check.hall(x, "person 0 1;person 1 1;thing 0 5;");
        CHECK.due("lendings", x.told(4), 0);
        CHECK.due("law without one told", x.told(5), 0);
        CHECK.due("votes", x.count(0), 0);
        CHECK.due("images", x.count(1), 0);
        CHECK.due("restore", x.restore(), -1);
        CHECK.due("who holds it", x.holds(0, 3), 0);
        Check.hall(x, "law 1;law 2;law 1;");
        CHECK.due("the last law counts", x.told(5), 1);
        CHECK.due("hall(0)", x.hall(0), 0);
        CHECK.due("law", x.told(5), 0);
    }

    /** Nothing of an earlier hall, nor of one with a fault, is left in a later one. */
    private static void hallsOneBehindTheOther() {
        String full = "person 0 9;person 1 9;door 1;outside 0 5 0 0;outside 1 5 0 0;thing 0 7;motion 1 1 2;law 2;";
        WeighedHall x = Check.told(full);
        CHECK.due("through", x.thing(0, 3), 5);
        CHECK.due("by heads", x.motion(0, 0, 0), 7);
        CHECK.due("hall", Check.hall(x, "person 0 9;thing 0 3;motion 1 1 0;"), 1);
        CHECK.due("through of a thing inside", x.thing(0, 3), 0);
        CHECK.due("who holds", x.holds(0, 0), 0);
        CHECK.due("for", x.motion(0, 0, 0), 3);
        CHECK.due("hall with a fault at its end", Check.hall(x, full + "law"), -9);
        CHECK.due("for", x.motion(0, 0, 0), 3);
        CHECK.due("an empty hall", x.hall(0), 0);
        for (int what = 0; what <= 5; what++) {
            CHECK.due("told(" + what + ")", x.told(what), 0);
        }
        CHECK.due("passes", x.passes(0), 0);
        CHECK.due("sums", x.sums(0, 1), 0);
        CHECK.due("hall", Check.hall(x, full), 2);
        CHECK.due("hall", Check.hall(x, "door 1;"), 0);
        CHECK.due("things", x.told(1), 0);
        CHECK.due("doors", x.told(2), 1);
        CHECK.due("motions", x.told(3), 0);
        CHECK.due("law", x.told(5), 0);
        CHECK.due("hollow", x.hollow(0), 1);
    }

    private static void textsShorterThanTheTape() {
        WeighedHall x = new WeighedHall();
        Check.feed(x, "law 1;");
        CHECK.due("no stop in the text", x.hall(5), -9);
        CHECK.due("fault at the length", x.fault(), 5);
        Check.feed(x, "law 1;lawx");
        CHECK.due("a word that ends with the text", x.hall(9), -9);
        CHECK.due("fault at the length", x.fault(), 9);
        Check.feed(x, "law 12;");
        CHECK.due("a number that ends with the text", x.hall(5), -9);
        CHECK.due("fault at the length", x.fault(), 5);
        Check.feed(x, "law 1;law 2;");
        CHECK.due("clauses in the text", x.hall(6), 0);
        CHECK.due("law in the text", x.told(5), 1);
        Check.feed(x, "law 1;       x");
        CHECK.due("blanks in the text", x.hall(9), 0);
    }

    private static void hallFault(String text, int kind, int place) {
        WeighedHall x = new WeighedHall();
        CHECK.due("hall '" + text + "'", Check.hall(x, text), kind - 10);
        CHECK.due("fault of '" + text + "'", x.fault(), place);
    }

    private static void hallRight(String text, int persons) {
        WeighedHall x = new WeighedHall();
        CHECK.due("hall '" + text + "'", Check.hall(x, text), persons);
        CHECK.due("fault of '" + text + "'", x.fault(), -1);
    }

    private static void lendFault(String text, int kind, int place) {
        WeighedHall x = Check.told("person 0 1;person 1 1;thing 0 5;");
        CHECK.due("lend '" + text + "'", Check.lend(x, text), kind - 10);
        CHECK.due("fault of '" + text + "'", x.fault(), place);
    }

    private static void lendRight(String text, int lendings) {
        WeighedHall x = Check.told("person 0 1;person 1 1;thing 0 5;");
        CHECK.due("lend '" + text + "'", Check.lend(x, text), lendings);
        CHECK.due("fault of '" + text + "'", x.fault(), -1);
    }
}
