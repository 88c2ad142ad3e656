/** Promises 24 to 32: votes and hollow things, speeches, images, refusals, counts. */
public final class VotesTest {
    private static final Check CHECK = new Check();
    private static final String HALL = "person 0 9;person 1 9;thing 0 5;thing 0 8;thing 1 5;";

    public static void main(String[] args) {
        votes();
        hollow();
        speeches();
        speechesMoveLendings();
        images();
        counts();
        refusals();
        CHECK.end("VotesTest");
    }

    private static void votes() {
        WeighedHall x = Check.told(HALL);
        for (int i = 1; i <= 9; i++) {
            CHECK.due("vote " + i, x.vote(i % 4 & 1, 2, i % 2 == 0 ? 9999 : -9999), i);
        }
        CHECK.due("a tenth vote", x.vote(1, 2, 0), -1);
        CHECK.illegal("a tenth vote that is none", () -> x.vote(4, 0, 0));
        CHECK.due("votes", x.count(0), 9);
        CHECK.due("forget", x.forget(), 9);
        CHECK.due("votes", x.count(0), 0);
        CHECK.due("forget", x.forget(), 0);
        CHECK.due("a vote of none", x.vote(0, 0, 0), 1);
        CHECK.due("which is right by all sets", x.hollow(0), 8);
        CHECK.due("no persons, a vote of none", new WeighedHall().vote(0, 0, 1), 1);
    }

    private static void hollowIs(WeighedHall x, int... due) {
        for (int what = 0; what < 5; what++) {
            CHECK.due("hollow(" + what + ")", x.hollow(what), due[what]);
        }
    }

    private static void hollow() {
        hollowIs(new WeighedHall(), 1, 0, 0, 0, 0);
        WeighedHall x = Check.told(HALL);
        hollowIs(x, 8, 0, 0, 0, 0);
        x.vote(1, 2, 8);
        hollowIs(x, 2, 0, 2, 0, 0);
        x.vote(1, 0, 10);
        hollowIs(x, 1, 5, 2, 2, 5);
        x.vote(0, 2, -3);
        hollowIs(x, 0, 0, 0, -1, -1);
        x.forget();
        hollowIs(x, 8, 0, 0, 0, 0);
        x.vote(0, 2, -2);
        hollowIs(x, 4, 4, 0, 1, 4);
        WeighedHall alike = Check.told("person 0 1;thing 0 4;thing 0 4;");
        alike.vote(1, 0, 6);
        hollowIs(alike, 2, 0, 0, 1, 1);
        WeighedHall one = Check.told("person 0 1;door 1;outside 0 1 0 99;");
        one.vote(1, 0, 0);
        hollowIs(one, 1, 1, 0, 1, 1);
        WeighedHall many = Check.told("person 0 1;" + "thing 0 2;".repeat(14));
        hollowIs(many, 16384, 0, 0, 0, 0);
        many.vote(1, 0, 21);
        hollowIs(many, 3432, 0, 0, 7, 127);
        Check.lend(x, "lend 0 1 0 9;");
        CHECK.due("by things of their own, not by those held", x.hollow(4), 4);
        WeighedHall fewer = Check.told("person 0 1;thing 0 4;thing 0 4;thing 0 8;");
        fewer.vote(1, 0, 12);
        hollowIs(fewer, 2, 0, 0, 1, 4);
        WeighedHall nine = Check.told(HALL);
        for (int i = 0; i < 9; i++) {
            nine.vote(1, 2, 8);
        }
        hollowIs(nine, 2, 0, 2, 0, 0);
    }

    private static void speeches() {
        WeighedHall x = Check.told("person 0 1;person 1 9;thing 0 10;thing 1 5;motion 2 1 2;");
        CHECK.due("speech(0, 3)", x.speech(0, 3), true);
        CHECK.due("speech(0, 4)", x.speech(0, 4), false);
        CHECK.due("speech(0, 60)", x.speech(0, 60), false);
        CHECK.due("tired(0)", x.tired(0), 4);
        CHECK.due("nothing is changed by it", x.motion(0, 0, 2), 1);
        CHECK.due("nothing is changed by it", x.spent(0), 6);
        String door = "person 0 9;person 1 9;thing 1 5;door 1;outside 0 6 0 0;motion 3 1 2;";
        CHECK.due("doors do not wait", Check.told(door).tired(0), 3);
        CHECK.due("doors do not wait", Check.told(door).speech(0, 3), true);
        CHECK.due("doors do not hurry", Check.told(door).speech(0, 2), false);
        CHECK.due("by heads", Check.told(door + "law 2;").tired(0), -1);
        CHECK.due("by roots", Check.told(door + "law 1;").tired(0), -1);
        WeighedHall late = Check.told("person 0 8;thing 0 3;motion 119 1 0;");
        CHECK.due("behind the last minute told", late.tired(0), 41);
        CHECK.due("behind the last minute told", late.speech(0, 40), true);
        WeighedHall edge = Check.told("person 0 2;thing 0 1;motion 60 1 0;");
        CHECK.due("by the longest speech", edge.tired(0), 60);
        CHECK.due("by no longer one", Check.told("person 0 2;thing 0 1;motion 59 1 0;").tired(0), -1);
    }

    private static void speechesMoveLendings() {
        String hall = "person 0 1;person 1 9;thing 0 10;thing 1 5;motion ";
        WeighedHall x = Check.told(hall + "2 1 2;");
        Check.lend(x, "lend 0 1 2 3;");
        CHECK.due("a lending of its minute is moved", x.tired(0), -1);
        WeighedHall y = Check.told(hall + "3 1 2;");
        Check.lend(y, "lend 0 1 0 3;");
        CHECK.due("an end at its minute is moved", y.tired(0), 34);
        WeighedHall z = Check.told("person 0 9;person 1 9;thing 0 10;thing 1 5;motion 2 1 2;");
        Check.lend(z, "lend 0 1 4 50;");
        CHECK.due("a later lending is moved", z.speech(0, 5), true);
        Check.lend(z, "lend 0 1 1 4;");
        CHECK.due("a later end is moved", z.speech(0, 5), false);
        Check.lend(z, "lend 0 1 0 1;");
        CHECK.due("an earlier end is not", z.speech(0, 5), true);
        CHECK.due("lendings stay as told", z.holds(0, 0), 1);
    }

    private static void images() {
        WeighedHall x = Check.told(HALL);
        CHECK.due("restore without one", x.restore(), -1);
        CHECK.due("image", x.image(), 1);
        Check.lend(x, "lend 0 1 0 9;");
        x.vote(1, 2, 8);
        CHECK.due("image", x.image(), 2);
        Check.lend(x, "lend 0 1 0 5;lend 1 1 0 9;");
        x.vote(1, 0, 10);
        CHECK.due("image", x.image(), 3);
        CHECK.due("a fourth image", x.image(), -1);
        CHECK.due("images", x.count(1), 3);
        x.forget();
        x.lend(0);
        Check.feed(x, "law 1;");
        CHECK.due("restore", x.restore(), 2);
        CHECK.due("lendings", x.told(4), 2);
        CHECK.due("votes", x.count(0), 2);
        CHECK.due("who holds", x.holds(0, 5), 0);
        CHECK.due("hollow", x.hollow(4), 5);
        CHECK.due("the tape stays", x.count(2), 20);
        CHECK.due("restore", x.restore(), 1);
        CHECK.due("who holds", x.holds(0, 5), 1);
        CHECK.due("who holds", x.holds(1, 5), 0);
        CHECK.due("hollow", x.hollow(0), 2);
        CHECK.due("a new image", x.image(), 2);
        x.forget();
        CHECK.due("restore", x.restore(), 1);
        CHECK.due("restore", x.restore(), 0);
        CHECK.due("lendings", x.told(4), 0);
        CHECK.due("votes", x.count(0), 0);
        CHECK.due("restore", x.restore(), -1);
        restoredVotes();
        x.image();
        CHECK.illegal("told(9)", () -> x.told(9));
        x.restore();
        CHECK.due("no image keeps the status", x.status(1), 1);
    }

    private static void restoredVotes() {
        WeighedHall x = Check.told(HALL);
        x.vote(1, 0, 10);
        x.image();
        x.forget();
        x.vote(2, 1, -5);
        x.image();
        x.forget();
        x.vote(1, 2, 3);
        CHECK.due("restore", x.restore(), 1);
        hollowIs(x, 1, 1, 6, 1, 1);
        CHECK.due("restore", x.restore(), 0);
        hollowIs(x, 2, 1, 2, 1, 1);
    }

    private static void counts() {
        WeighedHall x = new WeighedHall();
        for (int what = -1; what <= 3; what++) {
            CHECK.due("count(" + what + ")", x.count(what), what < 0 || what > 2 ? -1 : 0);
            CHECK.due("status(" + what + ")", x.status(what), what < 0 || what > 1 ? -1 : 0);
        }
        x.feed(1, 2, 3, 4, 5);
        CHECK.due("count(2)", x.count(2), 20);
    }

    private static void refusals() {
        WeighedHall x = Check.told(HALL + "motion 0 1 2;");
        CHECK.illegal("vote(4, 0, 0)", () -> x.vote(4, 0, 0));
        CHECK.illegal("vote(0, 4, 0)", () -> x.vote(0, 4, 0));
        CHECK.illegal("vote(-1, 0, 0)", () -> x.vote(-1, 0, 0));
        CHECK.illegal("vote(0, -1, 0)", () -> x.vote(0, -1, 0));
        CHECK.illegal("vote(3, 1, 0)", () -> x.vote(3, 1, 0));
        CHECK.illegal("vote(1, 2, 10000)", () -> x.vote(1, 2, 10000));
        CHECK.illegal("vote(1, 2, -10000)", () -> x.vote(1, 2, -10000));
        CHECK.illegal("vote(1, 2, least)", () -> x.vote(1, 2, Integer.MIN_VALUE));
        CHECK.illegal("hollow(5)", () -> x.hollow(5));
        CHECK.illegal("hollow(-1)", () -> x.hollow(-1));
        CHECK.illegal("speech(0, 0)", () -> x.speech(0, 0) ? 1 : 0);
        CHECK.illegal("speech(0, 61)", () -> x.speech(0, 61) ? 1 : 0);
        CHECK.due("status(1)", x.status(1), 12);
        CHECK.noSuch("speech(1, 1)", () -> x.speech(1, 1) ? 1 : 0);
        CHECK.noSuch("speech(-1, 0)", () -> x.speech(-1, 0) ? 1 : 0);
        CHECK.noSuch("tired(1)", () -> x.tired(1));
        CHECK.noSuch("tired(-1)", () -> x.tired(-1));
        CHECK.due("status(0)", x.status(0), 4);
        CHECK.due("votes", x.count(0), 0);
        CHECK.due("refusals count once each", x.status(1), 12);
    }
}
