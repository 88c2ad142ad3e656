import java.util.ArrayList;
import java.util.List;
import java.util.Random;

/** Promises 2 to 30 on halls drawn with fixed seeds, against PlainHall's answers. */
public final class RandomRunsTest {
    private static final Check CHECK = new Check();

    public static void main(String[] args) {
        int runs = args.length > 0 ? Integer.parseInt(args[0]) : 400;
        for (int seed = 0; seed < runs; seed++) {
            run(seed);
        }
        CHECK.end("RandomRunsTest");
    }

    private static void run(int seed) {
        Random r = Check.drawn(seed);
        PlainHall plain = draw(r);
        String text = plain.hallText(r);
        if (text.length() > 600) {
            return;
        }
        String name = "seed " + seed + " " + text;
        WeighedHall x = new WeighedHall();
        CHECK.due(name, Check.hall(x, text), plain.persons.size());
        CHECK.due(name + " told", x.told(1) * 1000 + x.told(2) * 100 + x.told(3) * 10 + x.told(5),
                plain.things.size() * 1000 + plain.doors.size() * 100 + plain.motions.size() * 10 + plain.law);
        persons(name, x, plain);
        parties(name, x, plain, r);
        doors(name, x, plain, r);
        sitting(name, text, "", plain);
        lendings(plain, r);
        String lent = plain.lendingsText(r);
        if (lent.length() <= 300) {
            CHECK.due(name + lent, Check.lend(x, lent), plain.lendings.size());
            sitting(name + lent, text, lent, plain);
            motions(name + lent, fresh(text, lent), plain, r);
            images(name + lent, x, plain, r);
        }
        hollow(name, fresh(text, ""), plain, r);
    }

    /** No object is asked more than 512 times: behind that nothing is promised. */
    private static WeighedHall fresh(String text, String lent) {
        WeighedHall x = Check.told(text);
        if (!lent.isEmpty()) {
            Check.lend(x, lent);
        }
        return x;
    }

    private static int of(Random r, int least, int most) {
        return least + r.nextInt(most - least + 1);
    }

    private static PlainHall draw(Random r) {
        PlainHall plain = new PlainHall();
        boolean full = r.nextInt(8) == 0;
        int persons = full ? 10 : of(r, 1, 5);
        int strongest = r.nextBoolean() ? 99 : 12;
        int heaviest = r.nextBoolean() ? 99 : of(r, 1, 30);
        for (int p = 0; p < persons; p++) {
            plain.persons.add(new int[] {of(r, 0, 3), of(r, 1, strongest)});
        }
        int doors = full ? 3 : of(r, 0, 3);
        for (int d = 0; d < doors; d++) {
            plain.doors.add(of(r, 1, r.nextBoolean() ? 99 : 9));
        }
        int things = full ? 14 : of(r, 0, 8);
        for (int t = 0; t < things; t++) {
            int door = doors > 0 && r.nextInt(3) == 0 ? of(r, 0, doors - 1) : -1;
            plain.things.add(new int[] {of(r, 0, persons - 1), of(r, 1, heaviest), door,
                door < 0 ? 0 : of(r, 0, r.nextBoolean() ? 99 : 12)});
        }
        int motions = full ? 8 : of(r, 0, 8);
        for (int m = 0; m < motions; m++) {
            int f = r.nextInt(1 << persons);
            plain.motions.add(new int[] {of(r, 0, r.nextBoolean() ? 119 : 20), f, r.nextInt(1 << persons) & ~f});
        }
        plain.law = of(r, 0, 2);
        return plain;
    }

    private static void lendings(PlainHall plain, Random r) {
        plain.lendings = new ArrayList<>();
        int number = of(r, 0, r.nextBoolean() ? 20 : 5);
        int latest = r.nextBoolean() ? 119 : 20;
        for (int i = 0; i < number && !plain.things.isEmpty() && plain.persons.size() > 1; i++) {
            int thing = r.nextInt(plain.things.size());
            int to = r.nextInt(plain.persons.size() - 1);
            to += to >= plain.things.get(thing)[0] ? 1 : 0;
            int from = of(r, 0, latest);
            plain.lendings.add(new int[] {thing, to, from, of(r, from + 1, Math.min(120, from + of(r, 1, 120)))});
        }
    }

    private static void persons(String name, WeighedHall x, PlainHall plain) {
        int all = 0;
        for (int p = 0; p < plain.persons.size(); p++) {
            CHECK.due(name + " party " + p, x.person(p, 0), plain.persons.get(p)[0]);
            CHECK.due(name + " arm " + p, x.person(p, 1), plain.persons.get(p)[1]);
            CHECK.due(name + " own " + p, x.person(p, 2), plain.own(p));
            CHECK.due(name + " power " + p, x.power(p), plain.power(p));
            all += plain.power(p);
        }
        CHECK.due(name + " powers", x.powers(), all);
        int[] through = plain.through(-1);
        for (int t = 0; t < plain.things.size(); t++) {
            CHECK.due(name + " owner " + t, x.thing(t, 0), plain.things.get(t)[0]);
            CHECK.due(name + " weight " + t, x.thing(t, 1), plain.things.get(t)[1]);
            CHECK.due(name + " door " + t, x.thing(t, 2), plain.things.get(t)[2]);
            CHECK.due(name + " through " + t, x.thing(t, 3), through[t]);
        }
    }

    private static void parties(String name, WeighedHall x, PlainHall plain, Random r) {
        for (int set = 0; set < 16; set++) {
            CHECK.due(name + " wins " + set, x.wins(set), plain.wins(set));
        }
        List<Integer> together = plain.together();
        for (int i = -1; i < 7; i++) {
            CHECK.due(name + " together " + i, x.together(i), i >= 0 && i < together.size() ? together.get(i) : -1);
        }
        for (int party = 0; party < 4; party++) {
            int pot = r.nextInt(10000);
            int above = x.owed(party, pot, 0);
            int below = x.owed(party, pot, 1);
            CHECK.due(name + " owed " + party + " of " + pot, 24 * above, (long) pot * plain.turned(party) * below);
            for (int d = 2; d <= 24; d++) {
                CHECK.due(name + " least terms by " + d, above % d == 0 && below % d == 0, false);
            }
        }
    }

    private static void doors(String name, WeighedHall x, PlainHall plain, Random r) {
        for (int d = 0; d < plain.doors.size(); d++) {
            final int door = d;
            if (plain.things.stream().filter(t -> t[2] == door).count() <= 7) {
                for (int i = 0; i < 6; i++) {
                    int minute = r.nextInt(i < 3 ? 40 : 1000);
                    CHECK.due(name + " bring " + d + " by " + minute, x.bring(d, minute), plain.bring(d, minute));
                }
            }
        }
    }

    private static void sitting(String name, String text, String lent, PlainHall plain) {
        PlainHall.Course c = plain.told();
        WeighedHall x = fresh(text, lent);
        for (int m = 0; m < 120; m++) {
            if (m % 10 == 0) {
                x = fresh(text, lent);
            }
            int held = 0;
            for (int t = 0; t < plain.things.size(); t++) {
                CHECK.due(name + " holds " + t + " behind " + m, x.holds(t, m), c.holder[m][t]);
                held += c.holder[m][t] >= 0 ? plain.things.get(t)[1] : 0;
            }
            for (int p = 0; p < plain.persons.size(); p++) {
                CHECK.due(name + " pounds " + p + " behind " + m, x.pounds(p, m, 0), plain.weigh(c.holder[m], p));
                CHECK.due(name + " strength " + p + " behind " + m, x.pounds(p, m, 1), c.strength[m][p]);
            }
            CHECK.due(name + " floor behind " + m, x.sums(m, 0), plain.weigh(c.holder[m], PlainHall.FLOOR));
            CHECK.due(name + " held behind " + m, x.sums(m, 1), held);
            CHECK.due(name + " outside behind " + m, x.sums(m, 2), plain.weigh(c.holder[m], PlainHall.OUTSIDE));
        }
        x = fresh(text, lent);
        for (int p = 0; p < plain.persons.size(); p++) {
            CHECK.due(name + " spent " + p, x.spent(p), c.spent[p]);
        }
        for (int law = 0; law < 3; law++) {
            CHECK.due(name + " passes " + law, x.passes(law), plain.passedBits(c, law));
            for (int other = 0; other < 3; other++) {
                CHECK.due(name + " unlike " + law + " " + other, x.unlike(law, other),
                        Integer.bitCount(plain.passedBits(c, law) ^ plain.passedBits(c, other)));
            }
            for (int m = 0; m < plain.motions.size(); m++) {
                int[] motion = plain.motions.get(m);
                int f = plain.side(c.holder[motion[0]], motion[1], law);
                int g = plain.side(c.holder[motion[0]], motion[2], law);
                CHECK.due(name + " motion " + m + " for by " + law, x.motion(m, law, 0), f);
                CHECK.due(name + " motion " + m + " against by " + law, x.motion(m, law, 1), g);
                CHECK.due(name + " motion " + m + " passes by " + law, x.motion(m, law, 2), f > g ? 1 : 0);
            }
        }
    }

    private static void motions(String name, WeighedHall x, PlainHall plain, Random r) {
        for (int t = 0; t < plain.things.size(); t++) {
            CHECK.due(name + " decides " + t, x.decides(t), plain.decides(t));
        }
        for (int m = 0; m < plain.motions.size(); m++) {
            int[] least = plain.least(m);
            CHECK.due(name + " least pounds " + m, x.least(m, 0), least[0]);
            CHECK.due(name + " least set " + m, x.least(m, 1), least[1]);
            CHECK.due(name + " tired " + m, x.tired(m), plain.tired(m));
            int l = of(r, 1, 60);
            CHECK.due(name + " speech " + m + " of " + l, x.speech(m, l), plain.speech(m, l));
        }
    }

    private static void images(String name, WeighedHall x, PlainHall plain, Random r) {
        List<int[]> lendings = plain.lendings;
        List<int[]> votes = new ArrayList<>(plain.votes);
        CHECK.due(name + " image", x.image(), 1);
        lendings(plain, r);
        String lent = plain.lendingsText(r);
        if (lent.length() <= 300) {
            Check.lend(x, lent);
        }
        x.forget();
        x.vote(0, 1, 5);
        CHECK.due(name + " restore", x.restore(), 0);
        plain.lendings = lendings;
        plain.votes = votes;
        PlainHall.Course c = plain.told();
        for (int t = 0; t < plain.things.size(); t++) {
            int minute = r.nextInt(120);
            CHECK.due(name + " restored: holds " + t, x.holds(t, minute), c.holder[minute][t]);
        }
        CHECK.due(name + " restored: votes", x.count(0), votes.size());
    }

    /** Votes that a drawn set makes right, so that there is something to find; at times one that is wrong. */
    private static void hollow(String name, WeighedHall x, PlainHall plain, Random r) {
        int set = r.nextInt(1 << plain.things.size());
        for (int i = 0; i < 4; i++) {
            int f = r.nextInt(1 << plain.persons.size());
            int g = r.nextInt(1 << plain.persons.size()) & ~f;
            int more = r.nextInt(12) == 0 ? 1 : 0;
            for (int t = 0; t < plain.things.size(); t++) {
                int[] thing = plain.things.get(t);
                int pounds = (set & 1 << t) != 0 ? thing[1] / 2 : thing[1];
                more += (f & 1 << thing[0]) != 0 ? pounds : (g & 1 << thing[0]) != 0 ? -pounds : 0;
            }
            int[] due = plain.hollow();
            for (int what = 0; what < 5; what++) {
                CHECK.due(name + " with " + i + " votes hollow " + what, x.hollow(what), due[what]);
            }
            CHECK.due(name + " vote", x.vote(f, g, more), i + 1);
            plain.votes.add(new int[] {f, g, more});
        }
    }
}
