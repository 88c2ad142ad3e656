/** The boundary cases of the two texts ("TWO TEXTS") and of promises 1 to 6, sentence by sentence. */
public final class EdgesOfTextsTest {
    private static final Check CHECK = new Check();
    private static final int UNFIT = -9;
    private static final int NO_SUCH_NUMBER = -8;
    private static final int TOO_MANY = -7;
    private static final String ONE = "person 0 1;";
    private static final String LENDABLE = "person 0 1;person 1 1;person 2 1;thing 0 5;thing 1 5;";

    public static void main(String[] args) {
        lengthOfAHall();
        clauses();
        persons();
        things();
        doors();
        outside();
        motions();
        laws();
        toldAhead();
        lengthOfLendings();
        lendings();
        numbers();
        words();
        blanks();
        firstFromTheLeft();
        endsTooEarly();
        ofOneTheLeast();
        aNewObject();
        feed();
        bytesOfANumber();
        hallTakesTheFirstBytes();
        hallClears();
        hallAfterHall();
        hallWithAFault();
        hallRefused();
        lend();
        lendWithAFault();
        lendRefused();
        fault();
        told();
        CHECK.end("EdgesOfTextsTest");
    }

    private static void hall(String text, int answer, int place) {
        WeighedHall x = new WeighedHall();
        CHECK.due("hall '" + text + "'", Check.hall(x, text), answer);
        CHECK.due("fault of '" + text + "'", x.fault(), place);
    }

    private static void right(String text, int persons) {
        hall(text, persons, -1);
    }

    private static void lend(String text, int answer, int place) {
        WeighedHall x = Check.told(LENDABLE);
        CHECK.due("lend '" + text + "'", Check.lend(x, text), answer);
        CHECK.due("fault of '" + text + "'", x.fault(), place);
        CHECK.due("lendings told by '" + text + "'", x.told(4), Math.max(answer, 0));
    }

    private static void lent(String text, int number) {
        lend(text, number, -1);
    }

    private static void lengthOfAHall() {
        CHECK.says("A HALL is of up to 600 bytes");
        WeighedHall x = new WeighedHall();
        CHECK.due("600 bytes", Check.hall(x, " ".repeat(589) + "person 3 99"), UNFIT);
        CHECK.due("the 600 bytes end too early", x.fault(), 600);
        CHECK.due("600 bytes", Check.hall(x, " ".repeat(588) + "person 3 99;"), 1);
        CHECK.due("what the last bytes tell", x.person(0, 1), 99);
        CHECK.due("600 bytes", Check.hall(x, " ".repeat(599) + "!"), UNFIT);
        CHECK.due("the last byte is looked at", x.fault(), 599);
        CHECK.due("an empty text", x.hall(0), 0);
        CHECK.due("its persons", x.told(0), 0);
        right("", 0);
        right(" ", 0);
    }

    private static void clauses() {
        CHECK.says("at most 60");
        String full = "law 1;".repeat(60);
        right(full, 0);
        right("law 1;".repeat(59) + "person 0 1;", 1);
        right(full + "  ", 0);
        for (String word : new String[] {"person 0 1;", "thing 0 1;", "door 1;", "outside 0 1 0 0;", "motion 0 0 0;", "law 1;"}) {
            hall(full + word, TOO_MANY, 360);
            hall(full + "  " + word, TOO_MANY, 362);
        }
        hall(full + "law", TOO_MANY, 360);
        hall(full + "law 9;", TOO_MANY, 360);
    }

    private static void persons() {
        CHECK.says("person P A (numbered from 0 on, 10 at most: of PARTY P, 0 to 3; ARM A, 1 to 99)");
        right("person 0 1;", 1);
        right("person 3 99;", 1);
        hall("person 4 1;", NO_SUCH_NUMBER, 7);
        hall("person -1 1;", UNFIT, 7);
        hall("person 0 0;", NO_SUCH_NUMBER, 9);
        hall("person 0 100;", NO_SUCH_NUMBER, 9);
        WeighedHall x = new WeighedHall();
        StringBuilder ten = new StringBuilder();
        for (int p = 0; p < 10; p++) {
            ten.append("person ").append(p % 4).append(' ').append(90 + p).append(';');
        }
        CHECK.due("ten persons", Check.hall(x, ten.toString()), 10);
        for (int p = 0; p < 10; p++) {
            CHECK.due("party of " + p, x.person(p, 0), p % 4);
            CHECK.due("arm of " + p, x.person(p, 1), 90 + p);
        }
        right(ONE.repeat(10), 10);
        hall(ONE.repeat(11), TOO_MANY, 110);
        hall(ONE.repeat(10) + "law 1; person", TOO_MANY, 117);
    }

    private static void things() {
        CHECK.says("thing O W (THINGS, 14 at most with those outside: PERSON O's, W pounds, 1 to 99)");
        right(ONE + "thing 0 1;", 1);
        right(ONE + "thing 0 99;", 1);
        hall(ONE + "thing 0 0;", NO_SUCH_NUMBER, 19);
        hall(ONE + "thing 0 100;", NO_SUCH_NUMBER, 19);
        right(ONE + ONE + "thing 1 1;", 2);
        hall(ONE + ONE + "thing 2 1;", NO_SUCH_NUMBER, 28);
        right(ONE.repeat(10) + "thing 9 1;", 10);
        hall(ONE.repeat(10) + "thing 10 1;", NO_SUCH_NUMBER, 116);
        hall("thing 0 1;", NO_SUCH_NUMBER, 6);
        String door = ONE + "door 1;";
        right(ONE + "thing 0 1;".repeat(14), 1);
        hall(ONE + "thing 0 1;".repeat(15), TOO_MANY, 151);
        right(door + "outside 0 1 0 0;".repeat(14), 1);
        hall(door + "outside 0 1 0 0;".repeat(15), TOO_MANY, 242);
        right(door + "outside 0 1 0 0;" + "thing 0 1;".repeat(13), 1);
        hall(door + "outside 0 1 0 0;" + "thing 0 1;".repeat(14), TOO_MANY, 164);
        right(door + "thing 0 1;".repeat(13) + "outside 0 1 0 0;", 1);
        hall(door + "thing 0 1;".repeat(14) + "outside 0 1 0 0;", TOO_MANY, 158);
    }

    private static void doors() {
        CHECK.says("door C (DOORS, 3 at most: lets through C pounds a MINUTE, 1 to 99)");
        right("door 1;", 0);
        right("door 99;", 0);
        hall("door 0;", NO_SUCH_NUMBER, 5);
        hall("door 100;", NO_SUCH_NUMBER, 5);
        right("door 1;".repeat(3), 0);
        hall("door 1;".repeat(4), TOO_MANY, 21);
    }

    private static void outside() {
        CHECK.says("outside O W D S (a THING that comes by DOOR D, from MINUTE S on, 0 to 99)");
        String two = ONE + ONE + "door 1;door 2;";
        right(two + "outside 0 1 0 0;", 2);
        right(two + "outside 1 99 1 99;", 2);
        hall(two + "outside 2 1 0 0;", NO_SUCH_NUMBER, 44);
        hall(two + "outside 1 0 0 0;", NO_SUCH_NUMBER, 46);
        hall(two + "outside 1 100 0 0;", NO_SUCH_NUMBER, 46);
        hall(two + "outside 1 1 2 0;", NO_SUCH_NUMBER, 48);
        hall(two + "outside 1 1 1 100;", NO_SUCH_NUMBER, 50);
        right(ONE + "door 1;".repeat(3) + "outside 0 1 2 0;", 1);
        hall(ONE + "door 1;".repeat(3) + "outside 0 1 3 0;", NO_SUCH_NUMBER, 44);
        hall(ONE + "outside 0 1 0 0;", NO_SUCH_NUMBER, 23);
        hall("door 1;outside 0 1 0 0;", NO_SUCH_NUMBER, 15);
    }

    private static void motions() {
        CHECK.says("motion T F G (MOTIONS, 8 at most: at MINUTE T, 0 to 119; F, G: bits, none in both)");
        right("motion 0 0 0;", 0);
        right("motion 119 0 0;", 0);
        hall("motion 120 0 0;", NO_SUCH_NUMBER, 7);
        hall("motion 0 1 0;", NO_SUCH_NUMBER, 9);
        hall("motion 0 0 1;", NO_SUCH_NUMBER, 11);
        String two = ONE + ONE;
        right(two + "motion 0 3 0;", 2);
        right(two + "motion 0 0 3;", 2);
        right(two + "motion 0 1 2;", 2);
        right(two + "motion 0 2 1;", 2);
        hall(two + "motion 0 4 0;", NO_SUCH_NUMBER, 31);
        hall(two + "motion 0 0 4;", NO_SUCH_NUMBER, 33);
        hall(two + "motion 0 1 1;", NO_SUCH_NUMBER, 33);
        hall(two + "motion 0 2 2;", NO_SUCH_NUMBER, 33);
        hall(two + "motion 0 3 2;", NO_SUCH_NUMBER, 33);
        hall(two + "motion 0 1 3;", NO_SUCH_NUMBER, 33);
        right(ONE.repeat(10) + "motion 0 1023 0;motion 0 0 1023;motion 0 512 511;", 10);
        hall(ONE.repeat(10) + "motion 0 1024 0;", NO_SUCH_NUMBER, 119);
        hall(ONE.repeat(10) + "motion 0 0 1024;", NO_SUCH_NUMBER, 121);
        right("motion 0 0 0;".repeat(8), 0);
        hall("motion 0 0 0;".repeat(9), TOO_MANY, 104);
    }

    private static void law(String text, int due) {
        CHECK.due("the law of '" + text + "'", Check.told(text).told(5), due);
    }

    private static void laws() {
        CHECK.says("law K (0 to 2; 0 without; the last counts)");
        law("law 0;", 0);
        law("law 1;", 1);
        law("law 2;", 2);
        hall("law 3;", NO_SUCH_NUMBER, 4);
        law("", 0);
        law(ONE, 0);
        law("law 1;law 2;", 2);
        law("law 2;" + ONE + "law 1;door 1;", 1);
        law("law 2;law 0;", 0);
    }

    private static void toldAhead() {
        CHECK.says("O, D, PERSONS in bits: told ahead");
        hall("thing 0 1;" + ONE, NO_SUCH_NUMBER, 6);
        hall(ONE + "thing 1 1;" + ONE, NO_SUCH_NUMBER, 17);
        hall(ONE + "outside 0 1 0 0;door 1;", NO_SUCH_NUMBER, 23);
        hall(ONE + "motion 0 2 0;" + ONE, NO_SUCH_NUMBER, 20);
        hall(ONE + "motion 0 0 2;" + ONE, NO_SUCH_NUMBER, 22);
        right(ONE + "thing 0 1;motion 0 1 0;" + ONE + "thing 1 1;motion 0 2 1;door 1;outside 1 1 0 0;", 2);
    }

    private static void lengthOfLendings() {
        CHECK.says("LENDINGS are of up to 300 bytes");
        lent("", 0);
        lent("   ", 0);
        lent(" ".repeat(287) + "lend 0 1 0 1;", 1);
        lend(" ".repeat(288) + "lend 0 1 0 1", UNFIT, 300);
        lend(" ".repeat(299) + "!", UNFIT, 299);
        WeighedHall x = Check.told(LENDABLE);
        Check.feed(x, " ".repeat(288) + "lend 0 1 0 1;");
        CHECK.illegal("lend of 301 bytes", () -> x.lend(301));
        CHECK.due("lend of the first 300", x.lend(300), UNFIT);
    }

    private static void lendings() {
        CHECK.says("lend X Y T E, at most 20: THING X to PERSON Y (not its OWNER) at MINUTE T, 0 to 119, till E, above T, to 120");
        String one = "lend 0 1 0 1;";
        lent(one, 1);
        lent(one.repeat(20), 20);
        lend(one.repeat(21), TOO_MANY, 260);
        lend(one.repeat(20) + " lend", TOO_MANY, 261);
        lent("lend 1 2 0 1;", 1);
        lend("lend 2 1 0 1;", NO_SUCH_NUMBER, 5);
        lend("lend 1 3 0 1;", NO_SUCH_NUMBER, 7);
        lend("lend 0 0 0 1;", NO_SUCH_NUMBER, 7);
        lend("lend 1 1 0 1;", NO_SUCH_NUMBER, 7);
        lent("lend 1 0 0 1;", 1);
        lent("lend 0 1 119 120;", 1);
        lent("lend 0 1 0 120;", 1);
        lend("lend 0 1 120 121;", NO_SUCH_NUMBER, 9);
        lend("lend 0 1 0 0;", NO_SUCH_NUMBER, 11);
        lend("lend 0 1 7 6;", NO_SUCH_NUMBER, 11);
        lend("lend 0 1 7 7;", NO_SUCH_NUMBER, 11);
        lent("lend 0 1 7 8;", 1);
        lend("lend 0 1 7 121;", NO_SUCH_NUMBER, 11);
        lend("lend 0 1 119 119;", NO_SUCH_NUMBER, 13);
        lend("lend 0 1 119 121;", NO_SUCH_NUMBER, 13);
        WeighedHall none = Check.told(ONE + ONE);
        CHECK.due("no things to lend", Check.lend(none, one), NO_SUCH_NUMBER);
        CHECK.due("no things to lend: its fault", none.fault(), 5);
        WeighedHall full = Check.told(ONE.repeat(10) + "door 1;" + "thing 0 1;".repeat(13) + "outside 0 1 0 0;");
        CHECK.due("the last thing to the last person", Check.lend(full, "lend 13 9 0 1;"), 1);
        CHECK.due("one thing behind it", Check.lend(full, "lend 14 9 0 1;"), NO_SUCH_NUMBER);
        CHECK.due("one person behind it", Check.lend(full, "lend 13 10 0 1;"), NO_SUCH_NUMBER);
        CHECK.due("its fault", full.fault(), 8);
    }

    private static void numbers() {
        CHECK.says("Numbers: digits, as many as stand there");
        law("law " + "0".repeat(300) + "2;", 2);
        hall("law 12;", NO_SUCH_NUMBER, 4);
        hall("law 10;", NO_SUCH_NUMBER, 4);
        hall("law 02 1;", UNFIT, 7);
        for (String wrapped : new String[] {"2147483648", "4294967296", "4294967297", "9223372036854775808",
            "18446744073709551616", "18446744073709551617", "1" + "0".repeat(200), "9".repeat(500)}) {
            hall("law " + wrapped + ";", NO_SUCH_NUMBER, 4);
            hall("law " + wrapped, NO_SUCH_NUMBER, 4);
        }
        hall("law/1;", UNFIT, 3);
        hall("law:1;", UNFIT, 3);
        hall("law 1/;", UNFIT, 5);
        hall("law 1:;", UNFIT, 5);
        hall("law 1a;", UNFIT, 5);
        hall("law +1;", UNFIT, 4);
        hall("law " + (char) 178 + ";", UNFIT, 4);
        for (int digit = 1; digit <= 9; digit++) {
            CHECK.due("digit " + digit, Check.told("person 0 " + digit + ";").person(0, 1), digit);
        }
        CHECK.due("ten", Check.told("person 0 10;").person(0, 1), 10);
    }

    private static void words() {
        CHECK.says("WORDS: small letters, as many as stand there");
        for (String word : new String[] {"person", "thing", "door", "outside", "motion", "law"}) {
            hall(word.substring(0, word.length() - 1) + " 0;", UNFIT, 0);
            hall(word + "s 0;", UNFIT, 0);
            hall("a" + word + " 0;", UNFIT, 0);
            hall(word + "a", UNFIT, 0);
            hall(word + "z", UNFIT, 0);
            hall(word + "`", UNFIT, word.length());
            hall(word + "{", UNFIT, word.length());
            hall(word + "A", UNFIT, word.length());
            hall(Character.toUpperCase(word.charAt(0)) + word.substring(1) + " 0;", UNFIT, 0);
            hall(word + word, UNFIT, 0);
            for (int i = 0; i < word.length(); i++) {
                String other = word.substring(0, i) + 'q' + word.substring(i + 1);
                hall(ONE + "door 1;" + other + " 0 0 0 0;", UNFIT, 18);
                hall(ONE + "door 1;" + other + " 0 1 0 0;", UNFIT, 18);
                hall(ONE + "door 1;" + other + " 0 1;", UNFIT, 18);
                hall(ONE + "door 1;" + other + " 1;", UNFIT, 18);
            }
        }
        for (int i = 0; i < 4; i++) {
            lend("lend".substring(0, i) + 'q' + "lend".substring(i + 1) + " 0 1 0 1;", UNFIT, 0);
        }
        hall("l aw 1;", UNFIT, 0);
        hall("lend 0 1 0 1;", UNFIT, 0);
        lend("len 0 1 0 1;", UNFIT, 0);
        lend("lends 0 1 0 1;", UNFIT, 0);
        lend("Lend 0 1 0 1;", UNFIT, 0);
        lend("law 1;", UNFIT, 0);
    }

    private static void blanks() {
        CHECK.says("blanks (32) may stand ahead of all these, and at the end");
        right("   person   0   1   ;   person 0 1 ;   ", 2);
        right("person0 1;thing0 1;motion0 0 0;law0;door1;", 1);
        lent("  lend  0  1  0  1  ;  lend0 1 0 1;  ", 2);
        for (int sign : new int[] {0, 9, 10, 13, 31, 33, 127, 128, 160, 255}) {
            char other = (char) sign;
            hall(other + "law 1;", UNFIT, 0);
            hall("law" + other + "1;", UNFIT, 3);
            hall("law 1" + other + ";", UNFIT, 5);
            hall("law 1;" + other, UNFIT, 6);
            lend("lend 0 1 0" + other + "1;", UNFIT, 10);
        }
        hall("person 0 1 0;", UNFIT, 11);
        hall("person 0" + "1;", UNFIT, 9);
    }

    private static void firstFromTheLeft() {
        CHECK.says("FAULTS, the first from the left, at its first byte");
        hall("law 3;laws 1;", NO_SUCH_NUMBER, 4);
        hall("laws 1;law 3;", UNFIT, 0);
        hall("person 4 0;", NO_SUCH_NUMBER, 7);
        hall("person 4 x;", NO_SUCH_NUMBER, 7);
        hall("person x 0;", UNFIT, 7);
        hall("door 1;".repeat(3) + "door 0;", TOO_MANY, 21);
        hall("door 1;".repeat(3) + "law 7;door 1;", NO_SUCH_NUMBER, 25);
        hall("   law   333;", NO_SUCH_NUMBER, 9);
        hall("law 1;   laws", UNFIT, 9);
        hall("motion 120 9 9;", NO_SUCH_NUMBER, 7);
        hall(ONE + "motion 0 2 2;", NO_SUCH_NUMBER, 20);
        hall(ONE + "motion 0 1 1", NO_SUCH_NUMBER, 22);
        lend("lend 9 9 999 999;", NO_SUCH_NUMBER, 5);
        lend("lend 0 9 999 999;", NO_SUCH_NUMBER, 7);
        lend("lend 0 0 999 999;", NO_SUCH_NUMBER, 7);
        lend("lend 0 1 999 0;", NO_SUCH_NUMBER, 9);
        lend("lend 0 0 0 1;lend 0 1 0 1;x", NO_SUCH_NUMBER, 7);
        hall(";", UNFIT, 0);
        hall("law 1;;", UNFIT, 6);
        hall("1;", UNFIT, 0);
    }

    /** A text that ends behind any of its words or numbers, with or without blanks, ends too early. */
    private static void endsTooEarly(String ahead, String clause, boolean lendings) {
        for (int end = 1; end < clause.length(); end++) {
            char next = clause.charAt(end);
            if (next == ' ' || next == ';') {
                String text = ahead + clause.substring(0, end);
                for (String blank : new String[] {"", " ", "   "}) {
                    if (lendings) {
                        lend(text + blank, UNFIT, (text + blank).length());
                    } else {
                        hall(text + blank, UNFIT, (text + blank).length());
                    }
                }
            }
        }
    }

    private static void endsTooEarly() {
        CHECK.says("1 what can't stand there (at the length, if the text ends too early)");
        endsTooEarly("", "person 0 1;", false);
        endsTooEarly(ONE, "thing 0 1;", false);
        endsTooEarly("", "door 1;", false);
        endsTooEarly(ONE + "door 1;", "outside 0 1 0 0;", false);
        endsTooEarly("", "motion 0 0 0;", false);
        endsTooEarly("law 0;", "law 1;", false);
        endsTooEarly("", "lend 0 1 0 1;", true);
        endsTooEarly("lend 0 1 0 1;", "lend 0 1 0 1;", true);
        hall("person ;", UNFIT, 7);
        hall("person 0;", UNFIT, 8);
        hall("motion 0 0;", UNFIT, 10);
        hall("law 1 2;", UNFIT, 6);
        lend("lend 0 1 0;", UNFIT, 10);
        lend("lend 0 1 0 1 2;", UNFIT, 13);
    }

    private static void ofOneTheLeast() {
        CHECK.says("of one the least");
        hall("law 1;".repeat(60) + "laws 1;", UNFIT, 360);
        hall("law 1;".repeat(60) + ";", UNFIT, 360);
        hall("law 1;".repeat(60) + "7", UNFIT, 360);
        lend("lend 0 1 0 1;".repeat(20) + "lent 0 1 0 1;", UNFIT, 260);
        lend("lend 0 1 0 1;".repeat(20) + "!", UNFIT, 260);
    }

    private static void aNewObject() {
        CHECK.says("WeighedHall(): No PERSONS.");
        WeighedHall x = new WeighedHall();
        CHECK.same("a new object", Answers.of(x), Answers.of(Check.told("")));
        CHECK.due("persons", x.told(0), 0);
        CHECK.due("tape", x.count(2), 0);
        CHECK.due("fault", x.fault(), -1);
        CHECK.noSuch("person(0, 0)", () -> x.person(0, 0));
        CHECK.noSuch("thing(0, 0)", () -> x.thing(0, 0));
        CHECK.noSuch("bring(0, 0)", () -> x.bring(0, 0));
        CHECK.noSuch("least(0, 0)", () -> x.least(0, 0));
        CHECK.due("lend(0)", x.lend(0), 0);
        CHECK.due("restore()", x.restore(), -1);
        CHECK.due("forget()", x.forget(), 0);
    }

    private static void feed() {
        CHECK.says("Twenty bytes come on the TAPE: how many there are; NONE, doing nothing, if there would be more than 600");
        WeighedHall x = new WeighedHall();
        Check.feed(x, "person 0 1;" + " ".repeat(569));
        CHECK.due("580 bytes", x.count(2), 580);
        CHECK.due("feed to 600", x.feed(0x20202020, 0x20202020, 0x20202020, 0x206c6177, 0x20313b20), 600);
        CHECK.due("feed above 600", x.feed(0, 0, 0, 0, 0), -1);
        CHECK.due("feed above 600 again", x.feed(-1, -1, -1, -1, -1), -1);
        CHECK.due("bytes", x.count(2), 600);
        CHECK.due("no call was refused", x.status(0) + x.status(1), 0);
        CHECK.due("the first bytes stay", x.hall(600), 1);
        CHECK.due("the last bytes stay", x.told(5), 1);
        for (int i = 1; i <= 30; i++) {
            CHECK.due("feed of a tape that was emptied", x.feed(i, i, i, i, i), 20 * i);
        }
        CHECK.due("feed above 600", x.feed(0, 0, 0, 0, 0), -1);
    }

    private static void bytesOfANumber() {
        CHECK.says("of each number the highest first");
        for (int place = 0; place < 20; place++) {
            StringBuilder text = new StringBuilder(" ".repeat(20));
            text.setCharAt(place, (char) 255);
            WeighedHall x = new WeighedHall();
            Check.feed(x, text.toString());
            CHECK.due("a text with one wrong byte", x.hall(20), UNFIT);
            CHECK.due("its place", x.fault(), place);
        }
        WeighedHall x = new WeighedHall();
        x.feed(0x6c617720, 0x323b2020, 0x20202020, 0x20202020, 0x20202020);
        CHECK.due("'law 2;' in two numbers", x.hall(20), 0);
        CHECK.due("its law", x.told(5), 2);
        x.feed(0x20202080, 0x20202020, 0x20202020, 0x20202020, 0x20202020);
        CHECK.due("a byte above 127 as the lowest", x.hall(20), UNFIT);
        CHECK.due("its place", x.fault(), 3);
    }

    private static void hallTakesTheFirstBytes() {
        CHECK.says("The first n bytes of the TAPE (empty then) are the HALL");
        WeighedHall x = new WeighedHall();
        Check.feed(x, "law 1;law 2;law 9;");
        CHECK.due("the first 12", x.hall(12), 0);
        CHECK.due("law", x.told(5), 2);
        CHECK.due("the tape is empty", x.count(2), 0);
        CHECK.illegal("none is left", () -> x.hall(1));
        CHECK.due("feed begins anew", x.feed(0x6c617720, 0x313b2020, 0, 0, 0), 20);
        CHECK.due("hall of the new bytes", x.hall(6), 0);
        CHECK.due("law", x.told(5), 1);
        Check.feed(x, "law 2;");
        CHECK.due("the first 0", x.hall(0), 0);
        CHECK.due("law", x.told(5), 0);
        CHECK.due("the tape is empty", x.count(2), 0);
        Check.feed(x, "law 2;law 1;");
        CHECK.due("a part of a clause", x.hall(11), UNFIT);
        CHECK.due("it ends too early", x.fault(), 11);
        Check.feed(x, "law 2;law 9;");
        CHECK.due("with its fault", x.hall(12), NO_SUCH_NUMBER);
        CHECK.due("the tape is empty behind a fault", x.count(2), 0);
        Check.feed(x, "lawx");
        CHECK.due("a part of a word", x.hall(3), UNFIT);
        CHECK.due("it ends too early", x.fault(), 3);
        Check.feed(x, "law 12;");
        CHECK.due("a part of a number", x.hall(5), UNFIT);
        CHECK.due("it ends too early", x.fault(), 5);
        Check.feed(x, "law 1;laws");
        CHECK.due("no part of the next clause", x.hall(6), 0);
        for (String last : new String[] {"law", "law 1", "law ", " law 1 "}) {
            Check.feed(x, " ".repeat(600 - last.length()) + last);
            CHECK.due("the last bytes of a full tape", x.hall(600), UNFIT);
            CHECK.due("it ends too early", x.fault(), 600);
        }
        Check.feed(x, "law 2;" + " ".repeat(14));
        CHECK.due("all bytes of the tape", x.hall(20), 0);
    }

    /** Two persons, a lending, a vote, two images. */
    private static WeighedHall rich() {
        WeighedHall x = Check.told("person 0 3;person 1 2;thing 0 5;thing 1 4;motion 3 1 2;law 1;");
        Check.lend(x, "lend 0 1 0 9;");
        x.image();
        x.vote(1, 2, 1);
        x.image();
        return x;
    }

    private static void hallClears() {
        CHECK.says("are the HALL (LENDINGS, VOTES, IMAGES gone): how many PERSONS");
        String same = "person 0 3;person 1 2;thing 0 5;thing 1 4;motion 3 1 2;law 1;";
        WeighedHall x = rich();
        CHECK.due("what was lent", x.holds(0, 0), 1);
        CHECK.due("hollow by a vote", x.hollow(0), 1);
        CHECK.due("the same hall", Check.hall(x, same), 2);
        CHECK.due("lendings", x.told(4), 0);
        CHECK.due("votes", x.count(0), 0);
        CHECK.due("images", x.count(1), 0);
        CHECK.due("restore", x.restore(), -1);
        CHECK.due("hollow without votes", x.hollow(0), 4);
        CHECK.same("the same hall", Answers.of(x), Answers.of(Check.told(same)));
        WeighedHall y = rich();
        CHECK.due("an empty hall", y.hall(0), 0);
        CHECK.same("an empty hall", Answers.of(y), Answers.of(new WeighedHall()));
        CHECK.due("ten persons", Check.hall(y, ONE.repeat(10)), 10);
    }

    /** Nothing of earlier halls is left, be they right ones or not. */
    private static void hallAfterHall() {
        CHECK.says("The first n bytes of the TAPE are the HALL");
        String[] halls = {"person 3 9;person 1 8;door 2;outside 1 7 0 5;outside 0 6 0 0;thing 0 5;motion 9 1 2;motion 1 3 0;law 2;",
            "person 2 1;thing 0 99;thing 0 2;motion 0 1 0;", "", "door 1;door 2;door 3;law 1;", "person 0 5;thing 0 4;",
            "motion 7 0 0;", "person 0 9;".repeat(10) + "thing 9 1;".repeat(14)};
        WeighedHall x = new WeighedHall();
        for (int i = 0; i < 3 * halls.length; i++) { // in three orders
            if (i % halls.length == 0) {
                x = new WeighedHall();
            }
            String hall = halls[i * (1 + i / halls.length) % halls.length];
            Check.hall(x, hall + "law");
            Check.hall(x, hall);
            CHECK.due("persons of '" + hall + "'", x.told(0), Check.told(hall).told(0));
            CHECK.same("'" + hall + "'", shortAnswers(x), shortAnswers(Check.told(hall)));
        }
    }

    private static String shortAnswers(WeighedHall x) {
        StringBuilder line = new StringBuilder();
        for (int what = 0; what <= 5; what++) {
            line.append(' ').append(x.told(what));
        }
        int things = x.told(1);
        for (int t = 0; t < things; t++) {
            line.append(' ').append(x.thing(t, 3)).append(' ').append(x.holds(t, 7));
        }
        return line.append(' ').append(x.passes(0)).append(' ').append(x.hollow(0)).append(' ').append(x.powers()).toString();
    }

    private static void hallWithAFault() {
        CHECK.says("or the FAULT less 10 (all stays)");
        String[] texts = {"person 0 1;law", "person 0 1;law 3;", "door 1;".repeat(4)};
        int[] places = {14, 15, 21};
        for (int kind = 1; kind <= 3; kind++) {
            WeighedHall x = rich();
            CHECK.due("hall '" + texts[kind - 1] + "'", Check.hall(x, texts[kind - 1]), kind - 10);
            CHECK.due("fault", x.fault(), places[kind - 1]);
            CHECK.due("the tape is empty", x.count(2), 0);
            CHECK.due("no call was refused", x.status(1), 0);
            staysRich("hall '" + texts[kind - 1] + "'", x);
        }
    }

    private static void staysRich(String call, WeighedHall x) {
        WeighedHall twin = rich();
        CHECK.same(call, Answers.of(x), Answers.of(twin));
        CHECK.same(call, Answers.ofImages(x), Answers.ofImages(twin));
    }

    private static void hallRefused() {
        CHECK.says("IllegalArgumentException: n is not 0 to the TAPE's bytes (it stays)");
        WeighedHall x = new WeighedHall();
        CHECK.illegal("hall(1) of an empty tape", () -> x.hall(1));
        Check.feed(x, "person 0 1;");
        for (int n : new int[] {-1, 21, Integer.MIN_VALUE, Integer.MAX_VALUE}) {
            CHECK.illegal("hall(" + n + ")", () -> x.hall(n));
            CHECK.due("the tape stays", x.count(2), 20);
        }
        CHECK.due("status(1)", x.status(1), 5);
        CHECK.due("status(0)", x.status(0), 0);
        CHECK.due("persons", x.told(0), 0);
        CHECK.due("the bytes stay", x.hall(11), 1);
    }

    private static void lend() {
        CHECK.says("Likewise LENDINGS (n to 300), in the place of those told: how many");
        WeighedHall x = rich();
        CHECK.due("two", Check.lend(x, "lend 1 0 0 9;lend 0 1 2 9;"), 2);
        CHECK.due("told", x.told(4), 2);
        CHECK.due("those told before are gone", x.holds(0, 1), 0);
        CHECK.due("the new ones are there", x.holds(1, 1), 0);
        CHECK.due("votes stay", x.count(0), 1);
        CHECK.due("images stay", x.count(1), 2);
        CHECK.due("persons stay", x.told(0), 2);
        Check.feed(x, "lend 0 1 0 9;lend 0 1 0 9;");
        CHECK.due("the first bytes of the tape", x.lend(13), 1);
        CHECK.due("the tape is empty", x.count(2), 0);
        CHECK.due("no bytes", x.lend(0), 0);
        CHECK.due("no lendings", x.told(4), 0);
        CHECK.due("nothing is lent", x.holds(0, 1), 0);
    }

    private static void lendWithAFault() {
        CHECK.says("Likewise: or the FAULT less 10 (all stays)");
        String one = "lend 1 0 0 9;";
        String[] texts = {one + "lend 1", one + "lend 2 0 0 9;", one.repeat(21)};
        int[] places = {19, 18, 260};
        for (int kind = 1; kind <= 3; kind++) {
            WeighedHall x = rich();
            CHECK.due("lend '" + texts[kind - 1] + "'", Check.lend(x, texts[kind - 1]), kind - 10);
            CHECK.due("fault", x.fault(), places[kind - 1]);
            CHECK.due("the tape is empty", x.count(2), 0);
            CHECK.due("no call was refused", x.status(1), 0);
            staysRich("lend '" + texts[kind - 1] + "'", x);
        }
    }

    private static void lendRefused() {
        CHECK.says("Likewise: IllegalArgumentException: n is not 0 to the TAPE's bytes, to 300 (it stays)");
        WeighedHall x = rich();
        CHECK.illegal("lend(1) of an empty tape", () -> x.lend(1));
        Check.feed(x, "lend 1 0 0 9;");
        for (int n : new int[] {-1, 21, Integer.MIN_VALUE, Integer.MAX_VALUE}) {
            CHECK.illegal("lend(" + n + ")", () -> x.lend(n));
            CHECK.due("the tape stays", x.count(2), 20);
        }
        Check.feed(x, " ".repeat(300));
        CHECK.illegal("lend(301)", () -> x.lend(301));
        CHECK.illegal("lend(320)", () -> x.lend(320));
        CHECK.due("the tape stays", x.count(2), 320);
        CHECK.due("status(1)", x.status(1), 7);
        CHECK.due("lendings stay", x.holds(0, 1), 1);
        CHECK.due("hall of as many bytes is not refused", x.hall(320), UNFIT);
    }

    private static void fault() {
        CHECK.says("The place of the FAULT of the latest text; NONE without");
        WeighedHall x = new WeighedHall();
        CHECK.due("no text", x.fault(), -1);
        Check.hall(x, "law");
        CHECK.due("of a hall", x.fault(), 3);
        CHECK.illegal("hall(99)", () -> x.hall(99));
        CHECK.due("a refused call tells no text", x.fault(), 3);
        Check.hall(x, LENDABLE);
        CHECK.due("of a right hall", x.fault(), -1);
        Check.lend(x, "lend");
        CHECK.due("of lendings", x.fault(), 4);
        x.image();
        x.vote(0, 0, 0);
        x.restore();
        CHECK.due("no other call changes it", x.fault(), 4);
        Check.hall(x, "!");
        CHECK.due("at 0", x.fault(), 0);
        x.lend(0);
        CHECK.due("of an empty text", x.fault(), -1);
        Check.lend(x, "!");
        x.hall(0);
        CHECK.due("of an empty text", x.fault(), -1);
    }

    private static void told() {
        CHECK.says("0 PERSONS, 1 THINGS, 2 DOORS, 3 MOTIONS, 4 LENDINGS, 5 LAW. IllegalArgumentException: another what");
        String full = "person0 1;".repeat(10) + "thing0 1;".repeat(11) + "door1;".repeat(3) + "outside0 1 0 0;".repeat(3)
                + "motion0 0 0;".repeat(8) + "law2;";
        WeighedHall x = Check.told(full);
        Check.lend(x, "lend0 1 0 1;".repeat(20));
        int[] due = {10, 14, 3, 8, 20, 2};
        for (int what = 0; what <= 5; what++) {
            CHECK.due("told(" + what + ") of a full hall", x.told(what), due[what]);
            CHECK.due("told(" + what + ") of an empty one", new WeighedHall().told(what), 0);
        }
        CHECK.illegal("told(-1)", () -> x.told(-1));
        CHECK.illegal("told(6)", () -> x.told(6));
        CHECK.due("status(1)", x.status(1), 2);
    }
}
