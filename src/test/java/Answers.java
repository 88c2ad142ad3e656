/**
 * All that a hall answers, but for its tape and the fault of its latest text, in one line:
 * so that two states can be told from one another.
 */
final class Answers {
    private static final int[] MINUTES = {0, 119};

    private final WeighedHall x;
    private final StringBuilder line = new StringBuilder();

    private Answers(WeighedHall x) {
        this.x = x;
    }

    /** Some 360 calls for a hall as full as may be, so that the 512 of an object are enough. */
    static String of(WeighedHall x) {
        Answers answers = new Answers(x);
        answers.told();
        answers.persons();
        answers.things();
        answers.motions();
        answers.parties();
        answers.votes();
        return answers.line.toString();
    }

    /** Goes back to one image after the other, so the hall is another one behind it. */
    static String ofImages(WeighedHall x) {
        Answers answers = new Answers(x);
        int things = x.told(1);
        for (int left = x.restore(); left >= 0; left = x.restore()) {
            answers.part("image");
            answers.put(left);
            answers.put(x.told(4));
            answers.put(x.count(0));
            for (int t = 0; t < things; t++) {
                answers.put(x.holds(t, 0));
            }
            answers.votes();
        }
        return answers.line.toString();
    }

    private void put(int answer) {
        line.append(' ').append(answer);
    }

    private void part(String name) {
        line.append(' ').append(name);
    }

    private void told() {
        part("told");
        for (int what = 0; what <= 5; what++) {
            put(x.told(what));
        }
        part("counts");
        put(x.count(0));
        put(x.count(1));
    }

    private void persons() {
        int persons = x.told(0);
        for (int p = 0; p < persons; p++) {
            part("person");
            for (int what = 0; what <= 2; what++) {
                put(x.person(p, what));
            }
            for (int minute : MINUTES) {
                put(x.pounds(p, minute, 0));
                put(x.pounds(p, minute, 1));
            }
            put(x.spent(p));
            put(x.power(p));
        }
        put(x.powers());
    }

    private void things() {
        int things = x.told(1);
        for (int t = 0; t < things; t++) {
            part("thing");
            for (int what = 0; what <= 3; what++) {
                put(x.thing(t, what));
            }
            for (int minute : MINUTES) {
                put(x.holds(t, minute));
            }
            put(x.decides(t));
        }
        int doors = x.told(2);
        for (int d = 0; d < doors; d++) {
            part("door");
            put(x.bring(d, 9));
            put(x.bring(d, 999));
        }
        part("sums");
        for (int minute : MINUTES) {
            for (int what = 0; what <= 2; what++) {
                put(x.sums(minute, what));
            }
        }
    }

    private void motions() {
        int motions = x.told(3);
        for (int m = 0; m < motions; m++) {
            part("motion");
            for (int law = 0; law <= 2; law++) {
                put(x.motion(m, law, 0));
                put(x.motion(m, law, 1));
                put(x.motion(m, law, 2));
            }
            put(x.least(m, 0));
            put(x.least(m, 1));
            put(x.tired(m));
            put(x.speech(m, 7) ? 1 : 0);
        }
        part("laws");
        for (int law = 0; law <= 2; law++) {
            put(x.passes(law));
            put(x.unlike(law, (law + 1) % 3));
        }
    }

    private void parties() {
        part("parties");
        for (int set = 0; set <= 15; set++) {
            put(x.wins(set) ? 1 : 0);
        }
        for (int party = 0; party <= 3; party++) {
            put(x.owed(party, 100, 0));
            put(x.owed(party, 100, 1));
            put(x.together(party));
        }
    }

    private void votes() {
        part("votes");
        for (int what = 0; what <= 4; what++) {
            put(x.hollow(what));
        }
    }
}
