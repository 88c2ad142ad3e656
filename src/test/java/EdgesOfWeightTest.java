/** The boundary cases of least, turns, power, parties, bringing ("==== 3.") and of promises 16 to 23, sentence by sentence. */
public final class EdgesOfWeightTest {
    private static final Check CHECK = new Check();
    private static final int NONE = -1;
    /** The second one is against it. */
    private static final String TWO = "person 0 99;person 1 99;";

    public static void main(String[] args) {
        leastOfNone();
        leastInsideAndFor();
        leastOfTheFirstTen();
        leastAnyByAny();
        leastEachNoMore();
        leastByEachMotion();
        leastMoreThanAgainst();
        leastOfSuchSets();
        turnsEitherWay();
        turnsByTheLaw();
        turnsAtADoor();
        turnsWithItsLendings();
        power();
        powerOfHalf();
        powers();
        wins();
        winsByHalf();
        owedOfAPot();
        owedByOrders();
        owedInLeastTerms();
        together();
        togetherNoneWithout();
        bringByAMinute();
        bringInAnyOrder();
        bringByADoor();
        CHECK.end("EdgesOfWeightTest");
    }

    private static void least(String hall, int pounds, int set) {
        least(Check.told(hall), hall, pounds, set);
    }

    private static void least(WeighedHall x, String name, int pounds, int set) {
        CHECK.due(name + " least(0, 0)", x.least(0, 0), pounds);
        CHECK.due(name + " least(0, 1)", x.least(0, 1), set);
    }

    private static void leastOfNone() {
        CHECK.says("LEAST: 0 the pounds, 1 the bits; NONE: none do");
        least("motion 0 0 0;", NONE, NONE);
        least(TWO + "motion 0 3 0;", NONE, NONE);
        least(TWO + "thing 0 5;motion 0 0 3;", NONE, NONE);
        least(TWO + "thing 0 5;thing 1 5;motion 0 1 2;", NONE, NONE);
        least(TWO + "thing 0 1;motion 0 1 2;", 1, 1);
        least(TWO + "thing 0 99;".repeat(10) + "thing 1 99;".repeat(4) + "motion 0 1 2;", 495, 31);
    }

    private static void leastInsideAndFor() {
        CHECK.says("THINGS (inside, of PERSONS for it)");
        least(TWO + "door 99;outside 0 1 0 0;thing 0 7;motion 50 1 2;", 7, 1);
        least(TWO + "door 99;outside 0 1 0 0;motion 50 1 2;", NONE, NONE);
        least(TWO + "thing 1 1;thing 0 7;motion 0 1 0;", 7, 1);
        least(TWO + "thing 1 1;thing 0 7;motion 0 3 0;", 1, 1);
        least(TWO + "thing 1 2;thing 0 7;thing 0 5;motion 0 1 2;", 5, 2);
        WeighedHall lent = Check.told(TWO + "person 2 99;thing 0 7;thing 2 3;motion 1 1 2;");
        Check.lend(lent, "lend 0 2 0 9;lend 1 0 0 9;");
        least(lent, "things of their own, whoever holds them in the sitting", 7, 1);
    }

    private static void leastOfTheFirstTen() {
        CHECK.says("the first 10 of these by number");
        least(TWO + "thing 0 9;".repeat(9) + "thing 0 1;motion 0 1 2;", 1, 512);
        least(TWO + "thing 0 9;".repeat(10) + "thing 0 1;motion 0 1 2;", 9, 1);
        least(TWO + "thing 1 1;" + "thing 0 9;".repeat(9) + "thing 0 2;motion 0 1 2;", 2, 512);
        least(TWO + "thing 1 1;door 1;outside 0 1 0 0;" + "thing 0 9;".repeat(10) + "thing 0 2;motion 0 1 2;", 9, 1);
        least(TWO + "thing 1 9;" + "thing 0 1;".repeat(10) + "motion 0 1 2;", 10, 1023);
        least(TWO + "thing 1 10;" + "thing 0 1;".repeat(11) + "motion 0 1 2;", NONE, NONE);
    }

    private static void leastAnyByAny() {
        CHECK.says("that could be held from MINUTE 0 to its own by PERSONS for it (any by any)");
        least("person 0 1;person 0 99;thing 0 61;motion 0 3 0;", 61, 1);
        least("person 0 99;person 0 1;thing 1 61;motion 0 3 0;", 61, 1);
        least("person 0 1;person 0 99;thing 0 61;motion 0 1 0;", NONE, NONE);
        least("person 0 1;person 0 99;thing 0 61;motion 0 1 2;", NONE, NONE);
        String pair = "person 0 1;person 0 1;person 1 99;thing 0 35;thing 0 35;thing 1 25;thing 1 25;";
        least(pair + "thing 2 99;thing 2 20;motion 0 3 4;", 120, 15);
        least(pair + "thing 2 99;thing 2 21;motion 0 3 4;", NONE, NONE);
        String ten = "person 0 1;".repeat(10) + "thing 0 60;".repeat(10);
        least(ten + "motion 0 1023 0;", 60, 1);
        least(ten.substring(11) + "person 1 99;thing 9 99;thing 9 99;thing 9 99;thing 9 99;motion 0 511 512;", 420, 127);
    }

    private static void leastEachNoMore() {
        CHECK.says("each no more pounds than 60 A by its MINUTE and 1, cut");
        least("person 0 1;thing 0 60;motion 0 1 0;", 60, 1);
        least("person 0 1;thing 0 61;motion 0 1 0;", NONE, NONE);
        least("person 0 1;thing 0 30;motion 1 1 0;", 30, 1);
        least("person 0 1;thing 0 31;motion 1 1 0;", NONE, NONE);
        least("person 0 1;thing 0 8;motion 6 1 0;", 8, 1);
        least("person 0 1;thing 0 9;motion 6 1 0;", NONE, NONE);
        least("person 0 1;thing 0 1;motion 59 1 0;", 1, 1);
        least("person 0 1;thing 0 1;motion 60 1 0;", NONE, NONE);
        least("person 0 1;thing 0 1;motion 119 1 0;", NONE, NONE);
        least("person 0 2;thing 0 1;motion 119 1 0;", 1, 1);
        least("person 0 99;thing 0 49;motion 119 1 0;", 49, 1);
        least("person 0 99;thing 0 50;motion 119 1 0;", NONE, NONE);
        String two = "person 0 1;person 1 99;thing 0 30;thing 0 30;thing 1 ";
        least(two + "59;motion 0 1 2;", 60, 3);
        least(two + "59;motion 1 1 2;", NONE, NONE);
        least(two + "29;motion 1 1 2;", 30, 1);
    }

    /** Who can carry what is found anew for each motion. */
    private static void leastByEachMotion() {
        CHECK.says("by PERSONS for it (any by any; each no more pounds than 60 A by its MINUTE and 1)");
        least("person 0 1;".repeat(9) + "person 0 99;thing 0 61;motion 0 1023 0;", 61, 1);
        least("person 0 99;" + "person 0 1;".repeat(9) + "thing 9 61;motion 0 1023 0;", 61, 1);
        least("person 0 1;".repeat(10) + "thing 0 61;motion 0 1023 0;", NONE, NONE);
        WeighedHall x = Check.told("person 0 1;person 0 99;thing 0 61;motion 0 3 0;motion 0 1 0;motion 0 0 0;");
        CHECK.due("by two", x.least(0, 0), 61);
        CHECK.due("by one of these", x.least(1, 0), NONE);
        CHECK.due("by none", x.least(2, 0), NONE);
        CHECK.due("by two again", x.least(0, 1), 1);
        String even = "person 0 1;person 0 1;person 1 99;thing 2 60;";
        least(even + "thing 0 30;thing 0 30;thing 0 30;motion 0 1 4;", NONE, NONE);
        least(even + "thing 0 30;thing 0 30;thing 0 30;motion 0 3 4;", 90, 7);
        least(even + "thing 0 60;thing 0 61;motion 0 3 4;", NONE, NONE);
        least(even + "thing 0 60;thing 0 60;thing 0 1;motion 0 3 4;", 61, 5);
        least(even + "thing 0 60;thing 0 60;thing 0 1;thing 2 60;motion 0 3 4;", NONE, NONE);
    }

    private static void leastMoreThanAgainst() {
        CHECK.says("and are more than those against it count in the SITTING (LAW 0)");
        least(TWO + "thing 0 5;thing 1 4;motion 0 1 2;", 5, 1);
        least(TWO + "thing 0 5;thing 1 5;motion 0 1 2;", NONE, NONE);
        least(TWO + "thing 0 5;thing 1 4;motion 0 1 2;law 1;", 5, 1);
        least(TWO + "thing 0 4;thing 1 3;thing 1 2;motion 0 1 2;law 1;", NONE, NONE);
        least(TWO + "thing 0 5;thing 1 5;motion 0 1 2;law 2;", NONE, NONE);
        String weak = "person 0 99;person 1 1;thing 0 5;thing 1 60;";
        least(weak + "motion 0 1 2;", NONE, NONE);
        least(weak + "motion 1 1 2;", 5, 1);
        least(TWO + "thing 0 5;door 1;outside 1 9 0 0;motion 8 1 2;", 5, 1);
        least(TWO + "thing 0 5;door 1;outside 1 9 0 0;motion 9 1 2;", NONE, NONE);
        WeighedHall lent = Check.told(TWO + "thing 0 5;thing 0 1;thing 1 4;motion 3 1 2;");
        least(lent, "nothing lent", 5, 1);
        Check.lend(lent, "lend 1 1 3 4;");
        least(lent, "one more held by those against it", 6, 3);
        Check.lend(lent, "lend 2 0 0 9;");
        least(lent, "nothing held by those against it", 1, 2);
    }

    private static void leastOfSuchSets() {
        CHECK.says("of such sets the least (bits of these THINGS, the first one 0)");
        least(TWO + "thing 0 3;thing 0 3;thing 0 3;motion 0 1 2;", 3, 1);
        least(TWO + "thing 0 4;thing 0 3;thing 0 3;motion 0 1 2;", 3, 2);
        least(TWO + "thing 1 5;thing 0 1;thing 0 5;thing 0 6;motion 0 1 2;", 6, 3);
        least(TWO + "thing 1 5;thing 0 6;thing 0 1;thing 0 5;motion 0 1 2;", 6, 1);
        least(TWO + "thing 1 5;thing 0 7;thing 0 2;thing 0 2;thing 0 2;motion 0 1 2;", 6, 14);
        least("person 0 1;person 1 99;thing 1 9;thing 0 9;thing 0 3;thing 0 7;motion 5 1 2;", 10, 6);
    }

    private static void turns(String hall, int... due) {
        WeighedHall x = Check.told(hall);
        for (int t = 0; t < due.length; t++) {
            CHECK.due(hall + " decides(" + t + ")", x.decides(t), due[t]);
        }
    }

    private static void turnsEitherWay() {
        CHECK.says("TURNS of a THING: MOTIONS that end otherwise, if it were not, as bits");
        turns(TWO + "thing 0 5;thing 1 4;motion 0 1 2;", 1, 0);
        turns(TWO + "thing 0 5;thing 1 5;motion 0 1 2;", 0, 1);
        turns(TWO + "thing 0 4;thing 0 1;thing 1 4;motion 0 1 2;", 1, 1, 0);
        turns(TWO + "thing 0 4;thing 0 2;thing 1 5;motion 0 1 2;", 1, 1, 0);
        turns(TWO + "thing 0 4;thing 0 2;thing 1 3;motion 0 1 2;", 1, 0, 0);
        turns(TWO + "thing 0 5;" + "motion 0 1 2;".repeat(8), 255);
        turns(TWO + "thing 0 5;" + "motion 0 0 0;".repeat(7) + "motion 119 1 2;", 128);
        turns(TWO + "thing 0 4;thing 1 5;" + "motion 0 0 0;".repeat(7) + "motion 119 1 2;", 0, 128);
        turns(TWO + "thing 0 4;thing 1 5;" + "motion 119 1 2;".repeat(8), 0, 255);
        turns(TWO + "thing 0 5;", 0);
        turns("person 0 1;person 0 99;thing 0 59;thing 0 2;thing 1 9;motion 0 1 2;", 0, 1, 0);
        WeighedHall x = Check.told(TWO + "thing 0 5;motion 0 1 2;");
        x.decides(0);
        CHECK.due("the thing is there again behind it", x.holds(0, 119), 0);
        CHECK.due("the motion passes as before", x.passes(0), 1);
    }

    private static void turnsByTheLaw() {
        CHECK.says("(by the LAW)");
        String hall = TWO + "thing 0 4;thing 0 3;thing 1 3;motion 0 1 2;";
        turns(hall, 1, 0, 0);
        turns(hall + "law 0;", 1, 0, 0);
        turns(hall + "law 1;", 1, 0, 0);
        turns(hall + "law 2;", 0, 0, 0);
        String roots = TWO + "thing 0 4;thing 0 5;thing 1 4;motion 0 1 2;";
        turns(roots, 0, 1, 0);
        turns(roots + "law 1;", 1, 1, 0);
        turns(TWO + "thing 0 9;thing 0 1;thing 1 8;motion 0 1 2;", 1, 0, 0);
        turns(TWO + "thing 0 9;thing 0 1;thing 1 8;motion 0 1 2;law 1;", 1, 0, 0);
        turns(TWO + "thing 0 8;thing 0 1;thing 1 5;motion 0 1 2;", 1, 0, 0);
        turns(TWO + "thing 0 8;thing 0 1;thing 1 5;motion 0 1 2;law 1;", 1, 1, 0);
    }

    private static void turnsAtADoor() {
        CHECK.says("a DOOR's others come sooner");
        String door = TWO + "thing 1 2;door 1;outside 1 5 0 0;outside 0 3 0 0;";
        turns(door + "motion 2 1 2;", 0, 0, 0);
        turns(door + "motion 3 1 2;", 0, 1, 0);
        turns(door + "motion 8 1 2;", 0, 1, 0);
        turns(TWO + "thing 1 2;door 1;door 1;outside 1 5 0 0;outside 0 3 1 0;motion 2 1 2;", 0, 0, 0);
        turns(TWO + "thing 1 2;door 1;outside 1 5 0 0;outside 0 3 0 1;motion 3 1 2;", 0, 0, 0);
        turns(TWO + "thing 1 2;door 1;outside 1 5 0 0;outside 0 3 0 1;motion 4 1 2;", 0, 1, 0);
        turns(TWO + "thing 1 2;door 1;outside 0 3 0 0;outside 1 5 0 0;motion 7 1 2;", 0, 1, 0);
        turns(TWO + "door 1;outside 0 3 0 0;motion 2 1 2;motion 3 1 2;", 2);
    }

    private static void turnsWithItsLendings() {
        CHECK.says("if it were not: nor is it lent");
        WeighedHall x = Check.told("person 0 99;person 1 1;thing 0 58;thing 1 4;motion 1 2 1;");
        Check.lend(x, "lend 0 1 0 9;");
        CHECK.due("who it was lent to is spent", x.spent(1), 0);
        CHECK.due("and is not without it", x.decides(0), 1);
        CHECK.due("his own turns nothing", x.decides(1), 0);
    }

    private static void powersOf(String hall, int... due) {
        WeighedHall x = Check.told(hall);
        int all = 0;
        for (int p = 0; p < due.length; p++) {
            CHECK.due(hall + " power(" + p + ")", x.power(p), due[p]);
            all += due[p];
        }
        CHECK.due(hall + " powers()", x.powers(), all);
    }

    private static void power() {
        CHECK.says("POWER: of all sets of the others those whose pounds (of all own THINGS, also outside) are not more than half, with his, more");
        powersOf("person 0 1;", 0);
        powersOf("person 0 1;thing 0 1;", 1);
        powersOf("person 0 1;person 0 1;", 0, 0);
        powersOf("person 0 1;person 0 1;thing 1 1;", 0, 2);
        powersOf("person 0 1;person 0 1;door 1;thing 0 5;outside 1 6 0 99;", 0, 2);
        powersOf("person 0 1;person 0 1;thing 0 99;thing 1 98;", 2, 0);
        powersOf("person 0 1;".repeat(10) + "thing 9 1;", 0, 0, 0, 0, 0, 0, 0, 0, 0, 512);
        WeighedHall x = Check.told("person 0 1;person 0 1;thing 0 5;thing 1 4;");
        Check.lend(x, "lend 0 1 0 120;");
        CHECK.due("own things, though lent", x.power(0), 2);
        CHECK.due("not those lent to him", x.power(1), 0);
    }

    private static void powerOfHalf() {
        CHECK.says("not more than half of all, with his, more");
        powersOf("person 0 1;person 0 1;thing 0 5;thing 1 5;", 1, 1);
        powersOf("person 0 1;person 0 1;thing 0 5;thing 1 6;", 0, 2);
        powersOf("person 0 1;person 0 1;person 0 1;thing 0 4;thing 1 3;thing 2 1;", 3, 1, 1);
        powersOf("person 0 1;person 0 1;person 0 1;thing 0 4;thing 1 3;thing 2 2;", 2, 2, 2);
        powersOf("person 0 1;person 0 1;person 0 1;thing 0 5;thing 1 3;thing 2 1;", 4, 0, 0);
    }

    private static void powers() {
        CHECK.says("POWER of all PERSONS together");
        CHECK.due("no persons", new WeighedHall().powers(), 0);
        CHECK.due("powers() ahead of any power", Check.told("person 0 1;thing 0 1;").powers(), 1);
        WeighedHall x = Check.told("person 0 1;thing 0 1;");
        CHECK.due("powers()", x.powers(), 1);
        Check.hall(x, "person 0 1;person 0 1;thing 0 1;");
        CHECK.due("powers() of another hall", x.powers(), 2);
        StringBuilder ten = new StringBuilder("person 0 1;".repeat(10));
        for (int p = 0; p < 10; p++) {
            ten.append("thing ").append(p).append(" 7;");
        }
        powersOf(ten.toString(), 126, 126, 126, 126, 126, 126, 126, 126, 126, 126);
    }

    private static void winsAre(String hall, int... sets) {
        WeighedHall x = Check.told(hall);
        for (int parties = 0; parties <= 15; parties++) {
            boolean due = false;
            for (int set : sets) {
                due |= set == parties;
            }
            CHECK.due(hall + " wins(" + parties + ")", x.wins(parties), due);
        }
    }

    private static void wins() {
        CHECK.says("Whether a set of PARTIES (bits, 0 to 15) WINS");
        winsAre("");
        winsAre("person 0 1;person 1 1;person 2 1;person 3 1;");
        winsAre("person 3 1;thing 0 1;", 8, 9, 10, 11, 12, 13, 14, 15);
        winsAre("person 0 1;thing 0 1;", 1, 3, 5, 7, 9, 11, 13, 15);
        winsAre("person 1 1;person 1 1;person 2 1;thing 0 5;thing 1 5;thing 2 9;", 2, 3, 6, 7, 10, 11, 14, 15);
        winsAre("person 0 1;person 1 1;door 1;thing 0 5;outside 1 6 0 99;", 2, 3, 6, 7, 10, 11, 14, 15);
        WeighedHall x = Check.told("person 0 1;");
        CHECK.illegal("wins(-1)", () -> x.wins(-1) ? 1 : 0);
        CHECK.illegal("wins(16)", () -> x.wins(16) ? 1 : 0);
    }

    private static void winsByHalf() {
        CHECK.says("a set of them WINS, if its pounds are more than half of all");
        winsAre("person 0 1;person 1 1;thing 0 5;thing 1 5;", 3, 7, 11, 15);
        winsAre("person 0 1;person 1 1;thing 0 6;thing 1 5;", 1, 3, 5, 7, 9, 11, 13, 15);
        winsAre("person 0 1;person 1 1;person 2 1;person 3 1;thing 0 1;thing 1 1;thing 2 1;thing 3 1;", 7, 11, 13, 14, 15);
    }

    private static void owed(WeighedHall x, int party, int pot, int above, int below) {
        CHECK.due("owed(" + party + ", " + pot + ", 0)", x.owed(party, pot, 0), above);
        CHECK.due("owed(" + party + ", " + pot + ", 1)", x.owed(party, pot, 1), below);
    }

    private static void owedOfAPot() {
        CHECK.says("OWED to a PARTY (0 to 3) of a pot (0 to 9,999): above (what 0), below (1)");
        WeighedHall all = Check.told("person 3 1;thing 0 1;");
        owed(all, 3, 0, 0, 1);
        owed(all, 3, 1, 1, 1);
        owed(all, 3, 9999, 9999, 1);
        owed(all, 0, 9999, 0, 1);
        owed(all, 0, 0, 0, 1);
        owed(new WeighedHall(), 0, 9999, 0, 1);
        owed(new WeighedHall(), 3, 0, 0, 1);
        for (int pot : new int[] {-1, 10000}) {
            CHECK.illegal("owed(3, " + pot + ", 0)", () -> all.owed(3, pot, 0));
        }
        for (int party : new int[] {-1, 4}) {
            CHECK.illegal("owed(" + party + ", 1, 0)", () -> all.owed(party, 1, 0));
        }
        for (int what : new int[] {-1, 2}) {
            CHECK.illegal("owed(3, 1, " + what + ")", () -> all.owed(3, 1, what));
        }
        CHECK.due("status(1)", all.status(1), 6);
    }

    private static void owedByOrders() {
        CHECK.says("by the mean, over all orders in which the four come, of whether the set becomes one that WINS by it");
        String four = "person 0 1;person 1 1;person 2 1;person 3 1;";
        WeighedHall alike = Check.told(four + "thing 0 1;thing 1 1;thing 2 1;thing 3 1;");
        WeighedHall three = Check.told(four + "thing 0 1;thing 1 1;thing 2 1;");
        WeighedHall two = Check.told(four + "thing 1 1;thing 3 1;");
        WeighedHall great = Check.told(four + "thing 0 2;thing 1 1;thing 2 1;thing 3 1;");
        WeighedHall half = Check.told(four + "thing 0 3;thing 1 1;thing 2 1;thing 3 1;");
        for (int party = 0; party <= 3; party++) {
            owed(alike, party, 1, 1, 4);
            owed(three, party, 1, party == 3 ? 0 : 1, party == 3 ? 1 : 3);
            owed(two, party, 1, party % 2, party % 2 == 0 ? 1 : 2);
            owed(great, party, 1, 1, party == 0 ? 2 : 6);
            owed(half, party, 1, party == 0 ? 3 : 1, party == 0 ? 4 : 12);
        }
    }

    private static void owedInLeastTerms() {
        CHECK.says("a fraction of 24, in least terms");
        WeighedHall x = Check.told("person 0 1;person 1 1;person 2 1;person 3 1;thing 0 3;thing 1 1;thing 2 1;thing 3 1;");
        owed(x, 1, 12, 1, 1);
        owed(x, 1, 11, 11, 12);
        owed(x, 1, 6, 1, 2);
        owed(x, 1, 8, 2, 3);
        owed(x, 1, 9, 3, 4);
        owed(x, 1, 10, 5, 6);
        owed(x, 1, 0, 0, 1);
        owed(x, 1, 9999, 3333, 4);
        owed(x, 0, 9999, 29997, 4);
        owed(x, 0, 9996, 7497, 1);
    }

    private static void togetherAre(String hall, int... sets) {
        WeighedHall x = Check.told(hall);
        for (int i = 0; i <= sets.length; i++) {
            CHECK.due(hall + " together(" + i + ")", x.together(i), i < sets.length ? sets[i] : NONE);
        }
        for (int i : new int[] {-1, -2, 16, Integer.MIN_VALUE, Integer.MAX_VALUE}) {
            CHECK.due(hall + " together(" + i + ")", x.together(i), NONE);
        }
        CHECK.due("no call is refused", x.status(0) + x.status(1), 0);
    }

    private static void together() {
        CHECK.says("The i-th set that HOLDS TOGETHER (in the order of their bits); NONE: none such");
        togetherAre("");
        togetherAre("person 0 1;");
        togetherAre("person 0 1;thing 0 1;", 1);
        togetherAre("person 3 1;thing 0 1;", 8);
        togetherAre("person 0 1;person 1 1;person 2 1;person 3 1;thing 0 2;thing 1 1;thing 2 1;thing 3 1;", 3, 5, 9, 14);
        togetherAre("person 0 1;person 1 1;person 2 1;person 3 1;thing 0 1;thing 1 1;thing 2 1;thing 3 2;", 7, 9, 10, 12);
        togetherAre("person 0 1;person 1 1;person 2 1;person 3 1;thing 0 1;thing 1 1;thing 2 1;thing 3 1;", 7, 11, 13, 14);
    }

    private static void togetherNoneWithout() {
        CHECK.says("HOLD TOGETHER do sets that WIN, but none without one of its PARTIES");
        togetherAre("person 0 1;person 1 1;thing 0 5;thing 1 5;", 3);
        togetherAre("person 0 1;person 1 1;thing 0 6;thing 1 5;", 1);
        togetherAre("person 0 1;person 1 1;person 2 1;thing 0 6;thing 1 3;thing 2 3;", 3, 5);
        togetherAre("person 0 1;person 1 1;person 2 1;thing 0 5;thing 1 3;thing 2 3;", 3, 5, 6);
    }

    private static void bring(String hall, int door, int... pairs) {
        WeighedHall x = Check.told(hall);
        for (int i = 0; i + 1 < pairs.length; i += 2) {
            CHECK.due(hall + " bring(" + door + ", " + pairs[i] + ")", x.bring(door, pairs[i]), pairs[i + 1]);
        }
    }

    private static void bringByAMinute() {
        CHECK.says("the most pounds that can be through by a MINUTE (0 to 999)");
        String one = "person 0 1;door 1;";
        bring(one, 0, 0, 0, 999, 0);
        bring(one + "outside 0 1 0 0;", 0, 0, 0, 1, 1, 999, 1);
        bring(one + "outside 0 99 0 99;", 0, 197, 0, 198, 99);
        bring("person 0 1;door 99;outside 0 99 0 99;", 0, 99, 0, 100, 99);
        bring("person 0 1;door 99;" + "outside 0 99 0 0;".repeat(14), 0, 0, 0, 1, 99, 13, 1287, 14, 1386, 999, 1386);
        bring(one + "outside 0 99 0 9;" + "outside 0 99 0 0;".repeat(13), 0, 98, 0, 99, 99, 989, 891, 990, 990, 999, 990);
        bring(one + "outside 0 5 0 0;outside 0 3 0 5;", 0, 4, 0, 5, 5, 7, 5, 8, 8);
        bring("person 0 1;door 2;outside 0 3 0 0;outside 0 3 0 0;", 0, 1, 0, 2, 3, 3, 3, 4, 6);
    }

    private static void bringInAnyOrder() {
        CHECK.says("BRINGING: by a DOOR, in any order");
        String door = "person 0 1;door 1;";
        bring(door + "outside 0 5 0 9;outside 0 3 0 0;", 0, 2, 0, 3, 3, 13, 3, 14, 8);
        bring(door + "outside 0 9 0 0;outside 0 2 0 0;outside 0 4 0 0;", 0, 1, 0, 2, 2, 4, 4, 6, 6, 8, 6, 9, 9, 11, 11, 13, 13, 15, 15);
        bring(door + "outside 0 3 0 4;outside 0 5 0 0;outside 0 2 0 2;", 0, 5, 5, 7, 7, 6, 5, 8, 8, 9, 8, 10, 10);
        bring("person 0 1;door 10;outside 0 11 0 0;outside 0 10 0 0;outside 0 10 0 0;", 0, 1, 10, 2, 20, 3, 21, 4, 31);
    }

    private static void bringByADoor() {
        CHECK.says("bring: no such DOOR");
        String three = "person 0 1;thing 0 50;door 1;door 2;door 3;outside 0 6 0 0;outside 0 8 1 0;outside 0 9 2 0;";
        bring(three, 0, 5, 0, 6, 6, 999, 6);
        bring(three, 1, 3, 0, 4, 8, 999, 8);
        bring(three, 2, 2, 0, 3, 9, 999, 9);
        WeighedHall x = Check.told(three);
        CHECK.noSuch("bring(3, 0)", () -> x.bring(3, 0));
        CHECK.noSuch("bring(-1, 0)", () -> x.bring(-1, 0));
        CHECK.illegal("bring(2, 1000)", () -> x.bring(2, 1000));
        CHECK.illegal("bring(2, -1)", () -> x.bring(2, -1));
        CHECK.noSuch("no doors", () -> Check.told("person 0 1;").bring(0, 0));
    }
}
