/** Promises 16 to 23: the least to be carried, what turns, power, parties, what is owed, bringing. */
public final class WeightTest {
    private static final Check CHECK = new Check();
    private static final String THREE = "person 0 1;person 1 1;person 2 1;thing 0 50;thing 1 49;thing 2 1;";

    public static void main(String[] args) {
        least();
        leastIsCarried();
        decides();
        power();
        parties();
        owed();
        together();
        bring();
        refusals();
        CHECK.end("WeightTest");
    }

    private static void least(String hall, int pounds, int set) {
        WeighedHall x = Check.told(hall);
        CHECK.due(hall + " least(0, 0)", x.least(0, 0), pounds);
        CHECK.due(hall + " least(0, 1)", x.least(0, 1), set);
    }

    private static void least() {
        least("person 0 9;person 1 9;thing 1 5;thing 0 3;thing 0 3;motion 0 1 2;", 6, 3);
        least("person 0 9;person 1 9;thing 1 5;thing 0 6;thing 0 6;motion 0 1 2;", 6, 1);
        least("person 0 9;person 1 9;thing 1 5;thing 0 9;thing 0 6;motion 0 1 2;", 6, 2);
        least("person 0 9;person 1 9;thing 1 5;thing 0 5;motion 0 1 2;", -1, -1);
        least("person 0 9;person 1 9;thing 0 5;thing 0 4;motion 0 1 2;", 4, 2);
        least("person 0 9;thing 0 5;motion 0 0 1;", -1, -1);
        least("person 0 9;door 9;outside 0 9 0 0;thing 0 5;motion 5 1 0;", 5, 1);
        least("person 0 9;person 1 9;thing 1 5;thing 0 3;thing 0 3;motion 0 1 2;law 2;", 6, 3);
        String ones = "person 0 9;person 1 9;thing 1 ";
        least(ones + "9;" + "thing 0 1;".repeat(10) + "thing 0 50;motion 0 1 2;", 10, 1023);
        least(ones + "10;" + "thing 0 1;".repeat(10) + "thing 0 50;motion 0 1 2;", -1, -1);
        WeighedHall x = Check.told("person 0 9;person 1 9;thing 1 5;thing 1 2;thing 0 3;thing 0 6;motion 1 1 2;");
        CHECK.due("more than those against it hold", x.least(0, 0), 9);
        Check.lend(x, "lend 0 0 0 2;");
        CHECK.due("by what those against it hold in the sitting", x.least(0, 0), 3);
    }

    private static void leastIsCarried() {
        String things = "thing 0 40;thing 0 30;thing 1 30;thing 2 59;";
        String two = "person 0 1;person 0 1;person 1 99;";
        least(two + things + "motion 0 3 4;", 60, 6);
        least(two + things + "motion 1 3 4;", 60, 6);
        least(two + things + "motion 2 3 4;", -1, -1);
        least(two + "thing 0 40;thing 0 40;thing 0 40;thing 2 79;motion 0 3 4;", 80, 3);
        least(two + "thing 0 40;thing 0 40;thing 0 40;thing 2 80;motion 0 3 4;", -1, -1);
        least("person 0 3;person 0 2;person 1 99;thing 0 50;thing 0 20;thing 0 20;thing 2 80;motion 2 3 4;", 90, 7);
        least("person 0 2;person 0 3;person 1 99;thing 0 20;thing 0 20;thing 0 50;thing 2 80;motion 2 3 4;", 90, 7);
        least("person 0 3;person 0 2;person 1 99;thing 0 50;thing 0 20;thing 0 21;thing 2 80;motion 2 3 4;", -1, -1);
        least("person 0 2;thing 0 1;thing 0 1;motion 119 1 0;", 1, 1);
        least("person 0 1;thing 0 1;motion 60 1 0;", -1, -1);
        least("person 0 1;thing 0 1;motion 59 1 0;", 1, 1);
    }

    private static void decides() {
        WeighedHall x = Check.told("person 0 9;person 1 9;thing 0 5;thing 0 3;thing 1 4;motion 0 1 2;motion 1 2 1;");
        CHECK.due("decides(0)", x.decides(0), 3);
        CHECK.due("decides(1)", x.decides(1), 0);
        CHECK.due("decides(2)", x.decides(2), 0);
        String door = "person 0 9;person 1 9;thing 1 2;door 1;outside 1 5 0 0;outside 0 3 0 0;motion 4 1 2;";
        CHECK.due("a door's others come sooner", Check.told(door).decides(1), 1);
        CHECK.due("by heads nothing turns", Check.told(door + "law 2;").decides(1), 0);
        String roots = "person 0 9;person 1 9;thing 0 3;thing 0 2;thing 1 1;motion 0 1 2;";
        CHECK.due("by pounds", Check.told(roots).decides(0), 0);
        CHECK.due("by roots", Check.told(roots + "law 1;").decides(0), 1);
        WeighedHall y = Check.told("person 0 9;person 1 1;thing 1 4;thing 0 58;motion 1 2 1;");
        CHECK.due("without it one is not spent: before", y.passes(0), 0);
        Check.lend(y, "lend 1 1 0 9;");
        CHECK.due("one spent", y.spent(1), 0);
        CHECK.due("its lending is not, without it", y.decides(1), 1);
    }

    private static void power() {
        CHECK.due("powers() ahead of any power", Check.told(THREE).powers(), 5);
        WeighedHall x = Check.told(THREE);
        CHECK.due("power(0)", x.power(0), 3);
        CHECK.due("power(1)", x.power(1), 1);
        CHECK.due("power(2)", x.power(2), 1);
        CHECK.due("powers()", x.powers(), 5);
        WeighedHall y = Check.told("person 0 1;person 1 1;thing 0 5;door 1;outside 1 6 0 99;");
        CHECK.due("also what is outside", y.power(1), 2);
        CHECK.due("also what is outside", y.power(0), 0);
        WeighedHall z = Check.told("person 0 1;person 1 1;");
        CHECK.due("no things, no power", z.powers(), 0);
        WeighedHall ten = Check.told("person 0 1;".repeat(10) + "thing 0 1;thing 1 1;thing 2 1;thing 3 1;thing 4 1;"
                + "thing 5 1;thing 6 1;thing 7 1;thing 8 1;thing 9 1;");
        CHECK.due("5 of 9 others", ten.power(9), 126);
        CHECK.due("of ten", ten.powers(), 1260);
    }

    private static void parties() {
        WeighedHall x = Check.told(THREE);
        for (int set = 0; set < 16; set++) {
            int rest = set & 7;
            CHECK.due("wins(" + set + ")", x.wins(set), rest == 3 || rest == 5 || rest == 7);
        }
        WeighedHall y = Check.told("person 3 1;person 3 1;person 1 1;thing 0 5;thing 1 5;thing 2 9;");
        CHECK.due("two of one party", y.wins(8), true);
        CHECK.due("the other party", y.wins(7), false);
    }

    private static void owed(WeighedHall x, int party, int pot, int above, int below) {
        CHECK.due("owed(" + party + ", " + pot + ", 0)", x.owed(party, pot, 0), above);
        CHECK.due("owed(" + party + ", " + pot + ", 1)", x.owed(party, pot, 1), below);
    }

    private static void owed() {
        WeighedHall x = Check.told(THREE);
        owed(x, 0, 30, 20, 1);
        owed(x, 0, 9999, 6666, 1);
        owed(x, 0, 10, 20, 3);
        owed(x, 1, 10, 5, 3);
        owed(x, 2, 1, 1, 6);
        owed(x, 3, 7, 0, 1);
        owed(x, 0, 0, 0, 1);
        WeighedHall y = Check.told("person 0 1;person 1 1;person 2 1;person 3 1;thing 0 3;thing 1 1;thing 2 1;thing 3 1;");
        owed(y, 0, 1, 3, 4);
        owed(y, 3, 1, 1, 12);
        owed(new WeighedHall(), 0, 24, 0, 1);
    }

    private static void together() {
        WeighedHall x = Check.told(THREE);
        CHECK.due("together(0)", x.together(0), 3);
        CHECK.due("together(1)", x.together(1), 5);
        CHECK.due("together(2)", x.together(2), -1);
        CHECK.due("together(-1)", x.together(-1), -1);
        WeighedHall y = Check.told("person 0 1;person 1 1;person 2 1;person 3 1;thing 0 1;thing 1 1;thing 2 1;thing 3 1;");
        int[] due = {7, 11, 13, 14, -1};
        for (int i = 0; i < due.length; i++) {
            CHECK.due("together(" + i + ") of four alike", y.together(i), due[i]);
        }
    }

    private static void bring() {
        WeighedHall x = Check.told("person 0 1;door 2;door 9;outside 0 4 0 5;outside 0 5 0 0;outside 0 3 0 1;outside 0 9 1 0;");
        int[] due = {0, 0, 0, 5, 5, 8, 8, 12};
        for (int minute = 0; minute < due.length; minute++) {
            CHECK.due("bring(0, " + minute + ")", x.bring(0, minute), due[minute]);
        }
        CHECK.due("bring(0, 999)", x.bring(0, 999), 12);
        CHECK.due("bring(1, 1)", x.bring(1, 1), 9);
        CHECK.due("bring(1, 0)", x.bring(1, 0), 0);
        WeighedHall y = Check.told("person 0 1;door 1;" + "outside 0 99 0 99;".repeat(14));
        CHECK.due("by the latest minute", y.bring(0, 999), 9 * 99);
        CHECK.due("by no minute too soon", y.bring(0, 197), 0);
        CHECK.due("by the first", y.bring(0, 198), 99);
        WeighedHall z = Check.told("person 0 1;door 10;outside 0 11 0 0;outside 0 10 0 0;outside 0 10 0 0;");
        CHECK.due("two that fill the door", z.bring(0, 2), 20);
        CHECK.due("what can be, not what lies ahead", z.bring(0, 1), 10);
        CHECK.due("an empty door", Check.told("door 1;").bring(0, 999), 0);
    }

    private static void refusals() {
        WeighedHall x = Check.told("person 0 1;thing 0 1;door 1;motion 0 1 0;");
        CHECK.noSuch("least(1, 0)", () -> x.least(1, 0));
        CHECK.noSuch("least(-1, 2)", () -> x.least(-1, 2));
        CHECK.noSuch("decides(1)", () -> x.decides(1));
        CHECK.noSuch("decides(-1)", () -> x.decides(-1));
        CHECK.noSuch("power(1)", () -> x.power(1));
        CHECK.noSuch("power(-1)", () -> x.power(-1));
        CHECK.noSuch("bring(1, 0)", () -> x.bring(1, 0));
        CHECK.noSuch("bring(-1, -1)", () -> x.bring(-1, -1));
        CHECK.due("status(0)", x.status(0), 8);
        CHECK.illegal("least(0, 2)", () -> x.least(0, 2));
        CHECK.illegal("least(0, -1)", () -> x.least(0, -1));
        CHECK.illegal("wins(16)", () -> x.wins(16) ? 1 : 0);
        CHECK.illegal("wins(-1)", () -> x.wins(-1) ? 1 : 0);
        CHECK.illegal("owed(4, 0, 0)", () -> x.owed(4, 0, 0));
        CHECK.illegal("owed(-1, 0, 0)", () -> x.owed(-1, 0, 0));
        CHECK.illegal("owed(0, 10000, 0)", () -> x.owed(0, 10000, 0));
        CHECK.illegal("owed(0, -1, 0)", () -> x.owed(0, -1, 0));
        CHECK.illegal("owed(0, 0, 2)", () -> x.owed(0, 0, 2));
        CHECK.illegal("owed(0, 0, -1)", () -> x.owed(0, 0, -1));
        CHECK.illegal("bring(0, 1000)", () -> x.bring(0, 1000));
        CHECK.illegal("bring(0, -1)", () -> x.bring(0, -1));
        CHECK.due("status(1)", x.status(1), 12);
    }
}
