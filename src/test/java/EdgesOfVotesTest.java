/** The boundary cases of votes, hollow things, speeches ("==== 3.") and of promises 24 to 32, sentence by sentence. */
public final class EdgesOfVotesTest {
    private static final Check CHECK = new Check();
    private static final int NONE = -1;
    private static final String TWO = "person 0 99;person 1 99;";

    public static void main(String[] args) {
        voteOfBits();
        voteByHowMuch();
        voteOfNine();
        forget();
        hollowWithoutVotes();
        hollowIsCut();
        hollowOfTheirOwn();
        hollowOfNoSet();
        hollowInAllAndInNone();
        hollowFewest();
        speechOfL();
        speechAndLendings();
        speechAndDoors();
        speechBehindTheLastMinute();
        speechByTheLaw();
        speechAndTheSpent();
        tired();
        tiredOfAFullHall();
        image();
        restore();
        restoreBringsAllBack();
        restoreEachVote();
        status();
        statusIsKeptByNoImage();
        answersAreNoRefusals();
        whatIsFullStaysAsItIs();
        questionsChangeNothing();
        count();
        CHECK.end("EdgesOfVotesTest");
    }

    private static void voteRefused(WeighedHall x, int f, int g, int more) {
        int before = x.status(1);
        int votes = x.count(0);
        CHECK.illegal("vote(" + f + ", " + g + ", " + more + ")", () -> x.vote(f, g, more));
        CHECK.due("status(1)", x.status(1), before + 1);
        CHECK.due("status(0)", x.status(0), 0);
        CHECK.due("votes", x.count(0), votes);
    }

    private static void voteOfBits() {
        CHECK.says("IllegalArgumentException: bits of no PERSONS, one in both");
        WeighedHall two = Check.told(TWO);
        CHECK.due("nobody for it, nobody against it", two.vote(0, 0, 0), 1);
        CHECK.due("all for it", two.vote(3, 0, 0), 2);
        CHECK.due("all against it", two.vote(0, 3, 0), 3);
        CHECK.due("one each", two.vote(2, 1, 0), 4);
        voteRefused(two, 4, 0, 0);
        voteRefused(two, 0, 4, 0);
        voteRefused(two, -1, 0, 0);
        voteRefused(two, 0, -1, 0);
        voteRefused(two, Integer.MIN_VALUE, 0, 0);
        voteRefused(two, 0, Integer.MIN_VALUE, 0);
        voteRefused(two, Integer.MAX_VALUE, 0, 0);
        voteRefused(two, 5, 2, 0);
        voteRefused(two, 1, 1, 0);
        voteRefused(two, 2, 2, 0);
        voteRefused(two, 3, 2, 0);
        voteRefused(two, 1, 3, 0);
        WeighedHall none = new WeighedHall();
        CHECK.due("no persons", none.vote(0, 0, 0), 1);
        voteRefused(none, 1, 0, 0);
        voteRefused(none, 0, 1, 0);
        WeighedHall ten = Check.told("person 0 1;".repeat(10));
        CHECK.due("ten for it", ten.vote(1023, 0, 0), 1);
        CHECK.due("ten against it", ten.vote(0, 1023, 0), 2);
        CHECK.due("ten on both sides", ten.vote(512, 511, 0), 3);
        voteRefused(ten, 1024, 0, 0);
        voteRefused(ten, 0, 1024, 0);
        voteRefused(ten, 512, 512, 0);
    }

    private static void voteByHowMuch() {
        CHECK.says("IllegalArgumentException: by how much (-9,999 to 9,999)");
        WeighedHall x = Check.told(TWO);
        CHECK.due("the least", x.vote(1, 2, -9999), 1);
        CHECK.due("the greatest", x.vote(1, 2, 9999), 2);
        voteRefused(x, 1, 2, -10000);
        voteRefused(x, 1, 2, 10000);
        voteRefused(x, 1, 2, Integer.MIN_VALUE);
        voteRefused(x, 1, 2, Integer.MAX_VALUE);
    }

    private static void voteOfNine() {
        CHECK.says("VOTES told (9 at most): how many there are; -1: there are 9");
        WeighedHall x = Check.told("person 0 99;thing 0 4;");
        for (int i = 1; i <= 8; i++) {
            CHECK.due("vote", x.vote(1, 0, 4), i);
        }
        CHECK.due("the ninth", x.vote(1, 0, 2), 9);
        CHECK.due("the ninth counts", x.hollow(0), 0);
        CHECK.due("the tenth", x.vote(1, 0, 2), -1);
        CHECK.due("the eleventh", x.vote(1, 0, 2), -1);
        CHECK.due("votes", x.count(0), 9);
        CHECK.due("none was refused", x.status(1), 0);
        x.forget();
        for (int i = 1; i <= 9; i++) {
            CHECK.due("vote", x.vote(1, 0, 4), i);
        }
        CHECK.due("a tenth that would be wrong", x.vote(1, 0, 2), -1);
        CHECK.due("changes nothing", x.hollow(0), 1);
        voteRefused(x, 2, 0, 0);
    }

    private static void forget() {
        CHECK.says("All VOTES go: how many");
        WeighedHall x = Check.told("person 0 99;thing 0 4;");
        CHECK.due("none", x.forget(), 0);
        x.vote(1, 0, 9);
        CHECK.due("hollow with it", x.hollow(0), 0);
        CHECK.due("one", x.forget(), 1);
        CHECK.due("hollow without it", x.hollow(0), 2);
        CHECK.due("none", x.forget(), 0);
        for (int i = 0; i < 9; i++) {
            x.vote(1, 0, 9);
        }
        CHECK.due("nine", x.forget(), 9);
        CHECK.due("votes", x.count(0), 0);
        CHECK.due("a new one is the first", x.vote(1, 0, 2), 1);
        CHECK.due("hollow by the new one alone", x.hollow(4), 1);
    }

    private static void hollow(WeighedHall x, int... due) {
        for (int what = 0; what <= 4; what++) {
            CHECK.due("hollow(" + what + ")", x.hollow(what), due[what]);
        }
    }

    private static void hollowWithoutVotes() {
        CHECK.says("Sets of HOLLOW ones by which all VOTES are right: how many");
        hollow(new WeighedHall(), 1, 0, 0, 0, 0);
        hollow(Check.told("person 0 1;"), 1, 0, 0, 0, 0);
        hollow(Check.told("person 0 1;thing 0 1;"), 2, 0, 0, 0, 0);
        hollow(Check.told("person 0 1;" + "thing 0 99;".repeat(14)), 16384, 0, 0, 0, 0);
        WeighedHall x = Check.told(TWO + "thing 0 4;");
        x.vote(0, 0, 0);
        x.vote(2, 0, 0);
        hollow(x, 2, 0, 0, 0, 0);
    }

    private static void weighs(int pounds, int cut) {
        WeighedHall x = Check.told("person 0 1;thing 0 " + pounds + ";");
        x.vote(1, 0, pounds);
        hollow(x, 1, 0, 1, 0, 0);
        x.forget();
        x.vote(1, 0, cut);
        hollow(x, 1, 1, 0, 1, 1);
        x.forget();
        x.vote(0, 1, -cut);
        hollow(x, 1, 1, 0, 1, 1);
        x.forget();
        x.vote(1, 0, cut + 1 == pounds ? cut - 1 : cut + 1);
        hollow(x, 0, 0, 0, NONE, NONE);
    }

    private static void hollowIsCut() {
        CHECK.says("THINGS may be HOLLOW: W by 2 (cut)");
        weighs(1, 0);
        weighs(2, 1);
        weighs(3, 1);
        weighs(98, 49);
        weighs(99, 49);
        WeighedHall all = Check.told("person 0 1;" + "thing 0 99;".repeat(14));
        for (int i = 0; i < 9; i++) {
            all.vote(1, 0, 14 * 49);
        }
        hollow(all, 1, 16383, 0, 14, 16383);
    }

    private static void hollowOfTheirOwn() {
        CHECK.says("by how much those for it weighed more (by THINGS of their own)");
        WeighedHall x = Check.told(TWO + "door 1;thing 0 8;outside 1 6 0 99;");
        Check.lend(x, "lend 0 1 0 120;");
        x.vote(1, 2, 2);
        hollow(x, 1, 0, 3, 0, 0);
        x.forget();
        x.vote(1, 2, 5);
        hollow(x, 1, 2, 1, 1, 2);
        x.forget();
        x.vote(2, 1, 2);
        hollow(x, 1, 1, 2, 1, 1);
        x.forget();
        x.vote(2, 1, -1);
        hollow(x, 1, 3, 0, 2, 3);
        WeighedHall floor = Check.told("person 0 1;thing 0 99;");
        floor.vote(1, 0, 99);
        hollow(floor, 1, 0, 1, 0, 0);
    }

    private static void hollowOfNoSet() {
        CHECK.says("THINGS in all of these (bits; 0 without), in none (0 without), the fewest (NONE), that set (NONE)");
        WeighedHall x = Check.told("person 0 1;thing 0 4;thing 0 4;");
        x.vote(1, 0, 5);
        hollow(x, 0, 0, 0, NONE, NONE);
        WeighedHall none = new WeighedHall();
        none.vote(0, 0, 0);
        hollow(none, 1, 0, 0, 0, 0);
        none.vote(0, 0, 1);
        hollow(none, 0, 0, 0, NONE, NONE);
        WeighedHall both = Check.told("person 0 1;thing 0 4;");
        both.vote(1, 0, 4);
        both.vote(1, 0, 2);
        hollow(both, 0, 0, 0, NONE, NONE);
        both.forget();
        both.vote(1, 0, 9999);
        hollow(both, 0, 0, 0, NONE, NONE);
        both.forget();
        both.vote(1, 0, -9999);
        hollow(both, 0, 0, 0, NONE, NONE);
    }

    private static void hollowInAllAndInNone() {
        CHECK.says("those HOLLOW in all (bits), in none");
        WeighedHall x = Check.told(TWO + "thing 0 4;thing 1 9;thing 0 8;thing 0 8;thing 1 2;");
        x.vote(1, 0, 14);
        hollow(x, 8, 1, 0, 2, 5);
        x.vote(0, 2, -11);
        hollow(x, 2, 1, 18, 2, 5);
        WeighedHall last = Check.told("person 0 1;person 0 1;" + "thing 0 2;".repeat(13) + "thing 1 2;");
        last.vote(2, 0, 1);
        hollow(last, 8192, 8192, 0, 1, 8192);
        last.vote(1, 0, 26);
        hollow(last, 1, 8192, 8191, 1, 8192);
    }

    private static void hollowFewest() {
        CHECK.says("the fewest, of these the least (bits)");
        WeighedHall one = Check.told("person 0 1;thing 0 4;thing 0 4;thing 0 8;");
        one.vote(1, 0, 12);
        hollow(one, 2, 0, 0, 1, 4);
        WeighedHall alike = Check.told("person 0 1;thing 0 6;thing 0 4;thing 0 4;thing 0 4;");
        alike.vote(1, 0, 14);
        hollow(alike, 3, 0, 1, 2, 6);
        WeighedHall two = Check.told("person 0 1;thing 0 4;thing 0 4;thing 0 8;");
        two.vote(1, 0, 10);
        hollow(two, 2, 4, 0, 2, 5);
        WeighedHall more = Check.told("person 0 1;thing 0 4;thing 0 4;thing 0 8;thing 0 6;");
        more.vote(1, 0, 15);
        hollow(more, 2, 8, 0, 2, 12);
        WeighedHall half = Check.told("person 0 1;" + "thing 0 2;".repeat(14));
        half.vote(1, 0, 21);
        hollow(half, 3432, 0, 0, 7, 127);
    }

    private static void speech(String hall, String lendings, int... pairs) {
        WeighedHall x = Check.told(hall);
        Check.lend(x, lendings);
        for (int i = 0; i + 1 < pairs.length; i += 2) {
            CHECK.due(hall + lendings + " speech(0, " + pairs[i] + ")", x.speech(0, pairs[i]), pairs[i + 1] == 1);
        }
        CHECK.due("what was told is as before", x.told(4), lendings.isEmpty() ? 0 : lendings.split(";").length);
    }

    private static void speechOfL() {
        CHECK.says("Whether a MOTION PASSES behind a SPEECH of L (1 to 60). IllegalArgumentException: L");
        speech("person 0 1;thing 0 30;motion 0 1 0;", "", 1, 1, 2, 0, 60, 0);
        speech("person 0 1;thing 0 1;motion 0 1 0;", "", 1, 1, 59, 1, 60, 0);
        speech("person 0 2;thing 0 1;motion 59 1 0;", "", 1, 1, 60, 1);
        WeighedHall x = Check.told("person 0 1;thing 0 30;motion 0 1 0;");
        for (int l : new int[] {0, -1, 61, Integer.MIN_VALUE, Integer.MAX_VALUE}) {
            CHECK.illegal("speech(0, " + l + ")", () -> x.speech(0, l) ? 1 : 0);
        }
        CHECK.due("status(1)", x.status(1), 5);
        CHECK.noSuch("speech(1, 1)", () -> x.speech(1, 1) ? 1 : 0);
        CHECK.noSuch("speech(-1, 1)", () -> x.speech(-1, 1) ? 1 : 0);
        CHECK.due("status(0)", x.status(0), 2);
    }

    private static void speechAndLendings() {
        CHECK.says("all that is told for its MINUTE or later (T and E of LENDINGS) comes L later");
        String hall = TWO + "thing 0 5;thing 1 4;motion 10 1 2;";
        speech(hall, "lend 0 1 10 20;", 1, 0, 60, 0);
        speech(hall, "lend 0 1 11 20;", 1, 1, 9, 1, 60, 1);
        speech(hall, "lend 0 1 9 20;", 1, 0, 9, 0, 10, 0, 60, 0);
        speech(hall, "lend 0 1 9 10;", 1, 1, 60, 1);
        speech(hall, "lend 0 1 5 9;", 1, 1, 60, 1);
        speech(hall, "lend 0 1 9 11;", 1, 0, 60, 0);
        speech(hall, "lend 0 1 119 120;", 1, 1, 60, 1);
        speech(hall, "lend 0 1 0 120;", 1, 0, 60, 0);
        String carried = "person 0 1;person 1 99;thing 0 20;motion 10 1 2;";
        speech(carried, "lend 0 1 0 9;", 1, 1, 2, 0);
        speech(carried, "lend 0 1 0 10;", 1, 1, 2, 1, 60, 1);
        speech("person 0 1;person 1 99;thing 0 20;motion 1 1 2;", "lend 0 1 1 9;", 1, 0, 2, 0, 60, 0);
        WeighedHall tired = Check.told("person 0 1;person 1 99;thing 0 20;motion 1 2 1;");
        Check.lend(tired, "lend 0 1 1 9;");
        CHECK.due("the lending waits, and he is spent ahead of it", tired.tired(0), 3);
        CHECK.due("without the wait", tired.speech(0, 2), true);
        WeighedHall other = Check.told(TWO + "thing 0 5;thing 1 4;motion 10 1 2;motion 4 2 1;");
        Check.lend(other, "lend 0 1 5 9;");
        CHECK.due("a speech ahead of another motion", other.speech(1, 6), false);
        CHECK.due("a speech ahead of the first", other.speech(0, 6), true);
    }

    private static void speechAndDoors() {
        CHECK.says("not DOORS");
        String door = TWO + "thing 1 5;door 1;outside 0 6 0 7;motion 10 1 2;";
        speech(door, "", 1, 0, 2, 0, 3, 1, 60, 1);
        speech(TWO + "thing 0 5;door 1;outside 1 5 0 7;motion 10 1 2;", "", 1, 1, 2, 0, 60, 0);
        speech(TWO + "thing 1 5;door 1;outside 0 6 0 10;motion 10 1 2;", "", 5, 0, 6, 1);
        WeighedHall lent = Check.told(TWO + "thing 1 5;door 1;outside 0 6 0 7;motion 10 2 1;");
        Check.lend(lent, "lend 1 1 13 20;");
        CHECK.due("lent three minutes later than the motion", lent.speech(0, 3), false);
        Check.lend(lent, "lend 1 1 10 20;");
        CHECK.due("lent with the motion, when it is through", lent.speech(0, 3), true);
        CHECK.due("it is outside without a speech", lent.holds(1, 10), -2);
    }

    private static void speechBehindTheLastMinute() {
        CHECK.says("comes L later (to MINUTE 199)");
        speech("person 0 3;thing 0 1;motion 119 1 0;", "", 59, 1, 60, 1);
        speech("person 0 6;thing 0 2;motion 119 1 0;", "", 59, 1, 60, 1);
        speech("person 0 99;thing 0 33;motion 119 1 0;", "", 59, 1, 60, 1);
        speech("person 0 98;thing 0 33;motion 119 1 0;", "", 58, 1, 59, 0, 60, 0);
        speech("person 0 9;door 1;outside 0 80 0 99;motion 119 1 0;", "", 59, 0, 60, 1);
        speech("person 0 9;door 1;outside 0 81 0 99;motion 119 1 0;", "", 60, 0);
        speech(TWO + "thing 0 5;motion 119 2 1;", "lend 0 1 119 120;", 1, 1, 60, 1);
        speech(TWO + "thing 0 5;motion 119 2 1;", "lend 0 1 118 119;", 1, 0, 60, 0);
        WeighedHall x = Check.told("person 0 9;door 1;outside 0 80 0 99;motion 119 1 0;");
        CHECK.due("tired by the last of all minutes", x.tired(0), 60);
        CHECK.due("the sitting as told ends with 119", x.holds(0, 119), -2);
    }

    private static void speechByTheLaw() {
        CHECK.says("Whether a MOTION PASSES: by the LAW of the hall");
        String hall = "person 0 1;person 1 99;thing 0 5;thing 1 4;motion 0 1 2;";
        speech(hall, "", 11, 1, 12, 0);
        speech(hall + "law 1;", "", 11, 0, 12, 0);
        speech(hall + "law 2;", "", 11, 0, 12, 0);
        speech("person 0 1;person 0 1;person 1 99;thing 2 9;motion 0 3 4;law 2;", "", 1, 1, 60, 1);
    }

    private static void speechAndTheSpent() {
        CHECK.says("A SPEECH of L MINUTES: who is SPENT in these is SPENT");
        WeighedHall lent = Check.told("person 0 99;person 1 1;thing 0 5;thing 1 20;motion 1 1 2;");
        Check.lend(lent, "lend 0 1 1 9;");
        CHECK.due("without a speech", lent.motion(0, 0, 2), 0);
        CHECK.due("he is spent in the motion's minute", lent.speech(0, 1), false);
        CHECK.due("he is spent in the motion's minute", lent.speech(0, 2), false);
        CHECK.due("he is spent ahead of it, and nothing is lent to him", lent.speech(0, 3), true);
        CHECK.due("tired", lent.tired(0), 3);
        String door = "person 0 1;thing 0 20;door 1;outside 0 9 0 0;motion 8 0 1;motion 2 1 0;";
        CHECK.due("what comes to him is on the floor", Check.told(door).speech(1, 7), false);
        CHECK.due("what comes to him is on the floor", Check.told(door).tired(1), 1);
    }

    /** The last thing of a full hall, which is the last person's. */
    private static void tiredOfAFullHall() {
        CHECK.says("TIRED, by the last of 14 THINGS and of 10 PERSONS");
        tired("person 0 1;".repeat(9) + "person 0 2;" + "thing 0 1;".repeat(13) + "thing 9 7;motion 5 512 0;", 12);
        tired("person 0 99;".repeat(10) + "door 1;" + "thing 0 1;".repeat(13) + "outside 9 5 0 0;motion 2 512 0;", 3);
        WeighedHall lent = Check.told("person 0 1;".repeat(10) + "thing 0 1;".repeat(13) + "thing 9 10;motion 3 512 0;");
        Check.lend(lent, "lend 0 1 0 1;lend 13 8 0 3;");
        CHECK.due("tired", lent.tired(0), 4);
    }

    private static void tired(String hall, int due) {
        CHECK.due(hall + " tired(0)", Check.told(hall).tired(0), due);
    }

    private static void tired() {
        CHECK.says("TIRED: the least L by which the MOTION ends otherwise; NONE");
        tired("person 0 1;thing 0 60;motion 0 1 0;", 1);
        tired("person 0 1;thing 0 1;motion 0 1 0;", 60);
        tired("person 0 2;thing 0 1;motion 60 1 0;", 60);
        tired("person 0 2;thing 0 1;motion 59 1 0;", NONE);
        tired("person 0 2;thing 0 1;motion 119 1 0;", 1);
        tired("person 0 1;person 1 99;thing 0 4;thing 1 3;motion 0 2 1;", 15);
        tired("person 0 1;person 1 1;thing 0 5;thing 1 4;motion 0 1 2;", 12);
        tired("person 0 1;person 1 1;thing 0 5;thing 1 4;motion 0 1 2;law 1;", NONE);
        tired("person 0 1;person 1 1;thing 0 5;thing 1 4;motion 0 1 2;law 2;", NONE);
        tired("motion 0 0 0;", NONE);
        tired("person 0 99;door 1;outside 0 60 0 0;motion 0 1 0;", 60);
        tired("person 0 99;door 1;outside 0 61 0 0;motion 0 1 0;", NONE);
        String inTurn = TWO + "thing 0 5;door 1;" + "outside 1 1 0 0;".repeat(6);
        for (int minute = 0; minute <= 4; minute++) {
            tired(inTurn + "motion " + minute + " 1 2;", 5 - minute);
        }
        WeighedHall lent = Check.told("person 0 1;person 1 9;thing 1 1;thing 0 10;thing 1 5;motion 3 1 2;");
        Check.lend(lent, "lend 0 0 0 1;lend 1 1 0 3;");
        CHECK.due("until who has what was lent is spent", lent.tired(0), 31);
        CHECK.due("what was lent till the motion comes back with it", lent.speech(0, 30), true);
        CHECK.due("if it is not on the floor", lent.speech(0, 31), false);
        WeighedHall eight = Check.told("person 0 1;thing 0 5;" + "motion 0 0 0;".repeat(7) + "motion 2 1 0;");
        CHECK.due("tired(7)", eight.tired(7), 10);
        CHECK.noSuch("tired(8)", () -> eight.tired(8));
        CHECK.noSuch("tired(-1)", () -> eight.tired(-1));
        CHECK.due("status(0)", eight.status(0), 2);
    }

    private static void image() {
        CHECK.says("An IMAGE of LENDINGS and VOTES: how many there are; -1: there are 3");
        WeighedHall x = new WeighedHall();
        for (int i = 1; i <= 3; i++) {
            CHECK.due("image", x.image(), i);
            CHECK.due("images", x.count(1), i);
        }
        CHECK.due("a fourth", x.image(), -1);
        CHECK.due("images", x.count(1), 3);
        CHECK.due("none was refused", x.status(0) + x.status(1), 0);
        CHECK.due("restore", x.restore(), 2);
        CHECK.due("a third again", x.image(), 3);
        CHECK.due("a fourth", x.image(), -1);
        WeighedHall y = Check.told(TWO + "thing 0 5;");
        for (int i = 0; i < 3; i++) {
            y.vote(1, 0, 5);
            y.image();
        }
        y.vote(1, 0, 2);
        CHECK.due("a fourth", y.image(), -1);
        CHECK.due("it changes no vote", y.count(0), 4);
        CHECK.due("restore", y.restore(), 2);
        CHECK.due("a fourth image kept nothing", y.count(0), 3);
    }

    private static void restore() {
        CHECK.says("All is as in the latest IMAGE, which is gone: how many are left; -1: there is none");
        WeighedHall x = Check.told(TWO + "thing 0 5;");
        CHECK.due("none", x.restore(), -1);
        x.vote(1, 0, 5);
        CHECK.due("none", x.restore(), -1);
        CHECK.due("changes nothing", x.count(0), 1);
        CHECK.due("none was refused", x.status(0) + x.status(1), 0);
        x.image();
        x.vote(1, 0, 5);
        x.image();
        x.vote(1, 0, 5);
        x.image();
        x.vote(1, 0, 5);
        for (int left = 2; left >= 0; left--) {
            CHECK.due("restore", x.restore(), left);
            CHECK.due("images", x.count(1), left);
            CHECK.due("votes", x.count(0), left + 1);
        }
        CHECK.due("none any more", x.restore(), -1);
        CHECK.due("votes", x.count(0), 1);
        x.image();
        Check.hall(x, TWO);
        CHECK.due("gone with the hall", x.restore(), -1);
    }

    private static void restoreBringsAllBack() {
        CHECK.says("restore: All is as in the latest IMAGE (of LENDINGS and VOTES)");
        String hall = TWO + "person 2 99;thing 0 6;thing 1 8;motion 5 2 1;";
        WeighedHall x = Check.told(hall);
        x.image();
        Check.lend(x, "lend 0 1 0 9;lend 1 2 3 9;".repeat(10));
        for (int i = 0; i < 9; i++) {
            x.vote(1, 2, i % 2 == 0 ? 2 : -2);
        }
        String full = Answers.of(x);
        x.image();
        x.lend(0);
        x.forget();
        x.vote(2, 0, 8);
        CHECK.due("who holds it without lendings", x.holds(0, 0), 0);
        CHECK.due("hollow by another vote", x.hollow(0), 2);
        Check.feed(x, "law 1;");
        CHECK.due("restore", x.restore(), 1);
        CHECK.same("as with 20 lendings and 9 votes", Answers.of(x), full);
        CHECK.due("restore", x.restore(), 0);
        CHECK.due("no lendings", x.told(4), 0);
        CHECK.due("no votes", x.count(0), 0);
        CHECK.due("the tape stays", x.count(2), 20);
        CHECK.due("the bytes of the tape stay", x.hall(6), 0);
        CHECK.due("law", x.told(5), 1);
        WeighedHall again = Check.told(hall);
        Check.lend(again, "lend 0 1 0 9;");
        again.image();
        again.vote(1, 2, 2);
        Check.lend(again, "lend 1 2 0 9;");
        again.restore();
        CHECK.due("lendings", again.told(4), 1);
        CHECK.due("who holds what was lent", again.holds(0, 0), 1);
        CHECK.due("who holds what is lent no more", again.holds(1, 0), 1);
        CHECK.due("votes", again.count(0), 0);
        CHECK.due("motions", again.motion(0, 0, 0), 14);
        CHECK.due("fault", again.fault(), -1);
        Check.lend(again, "lend");
        again.image();
        again.lend(0);
        Check.lend(again, "len");
        again.restore();
        CHECK.due("the fault is no part of an image", again.fault(), 0);
        CHECK.due("law", again.told(5), 0);
    }

    private static void restoreEachVote() {
        CHECK.says("restore: All is as in the latest IMAGE (of VOTES: for F, against G, by how much)");
        WeighedHall x = Check.told(TWO + "thing 0 6;thing 1 8;");
        x.vote(1, 0, 3);
        x.image();
        x.forget();
        x.vote(0, 2, -4);
        x.image();
        x.forget();
        x.vote(1, 2, 2);
        x.image();
        x.forget();
        x.vote(2, 1, 2);
        hollow(x, 1, 0, 3, 0, 0);
        x.restore();
        hollow(x, 1, 2, 1, 1, 2);
        x.restore();
        hollow(x, 2, 2, 0, 1, 2);
        x.restore();
        hollow(x, 2, 1, 0, 1, 1);
    }

    private static void status() {
        CHECK.says("How many calls were refused: 0 NoSuchElementException, 1 IllegalArgumentException; NONE for others");
        WeighedHall x = new WeighedHall();
        for (int what : new int[] {-1, 2, 3, Integer.MIN_VALUE, Integer.MAX_VALUE}) {
            CHECK.due("status(" + what + ")", x.status(what), NONE);
        }
        CHECK.due("none yet", x.status(0), 0);
        CHECK.due("none yet", x.status(1), 0);
        CHECK.noSuch("spent(0)", () -> x.spent(0));
        CHECK.due("status(0)", x.status(0), 1);
        CHECK.due("status(1)", x.status(1), 0);
        CHECK.illegal("passes(3)", () -> x.passes(3));
        CHECK.illegal("passes(3)", () -> x.passes(3));
        CHECK.due("status(0)", x.status(0), 1);
        CHECK.due("status(1)", x.status(1), 2);
        Check.hall(x, TWO);
        CHECK.due("a hall keeps it", x.status(0) * 10 + x.status(1), 12);
        Check.hall(x, "law 3;");
        CHECK.due("a fault keeps it", x.status(0) * 10 + x.status(1), 12);
        CHECK.due("no other object counts it", new WeighedHall().status(1), 0);
    }

    private static void statusIsKeptByNoImage() {
        CHECK.says("(No IMAGE keeps it.)");
        WeighedHall x = new WeighedHall();
        x.image();
        CHECK.noSuch("power(0)", () -> x.power(0));
        CHECK.illegal("told(9)", () -> x.told(9));
        CHECK.due("restore", x.restore(), 0);
        CHECK.due("status(0)", x.status(0), 1);
        CHECK.due("status(1)", x.status(1), 1);
    }

    private static void answersAreNoRefusals() {
        CHECK.says("How many calls were refused: NONE and -1 as answers are no refusals");
        WeighedHall x = Check.told("person 0 9;thing 0 4;motion 0 0 1;");
        x.restore();
        x.together(-1);
        x.together(99);
        x.status(9);
        x.count(9);
        x.spent(0);
        x.least(0, 0);
        x.tired(0);
        for (int i = 0; i < 10; i++) {
            x.vote(1, 0, 9);
        }
        for (int i = 0; i < 4; i++) {
            x.image();
        }
        x.hollow(3);
        for (int i = 0; i < 31; i++) {
            x.feed(0, 0, 0, 0, 0);
        }
        CHECK.due("a text of zeros", x.hall(600), -9);
        CHECK.due("status(0)", x.status(0), 0);
        CHECK.due("status(1)", x.status(1), 0);
    }

    private static WeighedHall fullOfVotes() {
        WeighedHall x = Check.told(TWO + "thing 0 6;thing 1 8;motion 5 2 1;");
        for (int i = 0; i < 9; i++) {
            x.vote(1, 2, -2);
            if (i % 3 == 0) {
                Check.lend(x, "lend 0 1 0 9;".repeat(i + 1));
                x.image();
            }
        }
        Check.feed(x, " ".repeat(594) + "law 1;");
        return x;
    }

    private static void whatIsFullStaysAsItIs() {
        CHECK.says("NONE, doing nothing; -1: there are 9; -1: there are 3; -1: there is none");
        WeighedHall x = fullOfVotes();
        CHECK.due("a tenth vote", x.vote(2, 1, 5), -1);
        CHECK.due("a fourth image", x.image(), -1);
        CHECK.due("bytes above 600", x.feed(-1, -1, -1, -1, -1), -1);
        CHECK.same("what is full", Answers.of(x), Answers.of(fullOfVotes()));
        CHECK.same("its images", Answers.ofImages(x), Answers.ofImages(fullOfVotes()));
        CHECK.same("what has no image", Answers.of(restoredInVain()), Answers.of(Check.told(TWO + "thing 0 6;")));
        CHECK.due("the bytes of the tape", x.hall(600), 0);
        CHECK.due("law", x.told(5), 1);
    }

    private static WeighedHall restoredInVain() {
        WeighedHall x = Check.told(TWO + "thing 0 6;");
        CHECK.due("restore", x.restore(), -1);
        return x;
    }

    /** A question changes nothing, whatever was asked before it. */
    private static void questionsChangeNothing() {
        CHECK.says("Nothing is promised beyond the answers and state changes described");
        WeighedHall x = fullOfVotes();
        String first = Answers.of(x);
        CHECK.same("asked twice", Answers.of(x), first);
        CHECK.same("its images", Answers.ofImages(x), Answers.ofImages(fullOfVotes()));
    }

    private static void count() {
        CHECK.says("0 VOTES, 1 IMAGES, 2 bytes of the TAPE; NONE for others");
        WeighedHall x = new WeighedHall();
        for (int what : new int[] {-1, 3, 4, Integer.MIN_VALUE, Integer.MAX_VALUE}) {
            CHECK.due("count(" + what + ")", x.count(what), NONE);
        }
        for (int what = 0; what <= 2; what++) {
            CHECK.due("count(" + what + ") of a new object", x.count(what), 0);
        }
        for (int i = 0; i < 9; i++) {
            x.vote(0, 0, 0);
        }
        for (int i = 0; i < 3; i++) {
            x.image();
        }
        for (int i = 0; i < 30; i++) {
            x.feed(0x20202020, 0x20202020, 0x20202020, 0x20202020, 0x20202020);
        }
        CHECK.due("count(0)", x.count(0), 9);
        CHECK.due("count(1)", x.count(1), 3);
        CHECK.due("count(2)", x.count(2), 600);
        x.forget();
        x.restore();
        CHECK.due("count(0)", x.count(0), 9);
        CHECK.due("count(1)", x.count(1), 2);
        x.lend(300);
        CHECK.due("count(2)", x.count(2), 0);
        x.hall(0);
        CHECK.due("count(0)", x.count(0), 0);
        CHECK.due("count(1)", x.count(1), 0);
    }
}
