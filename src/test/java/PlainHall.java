import java.util.ArrayList;
import java.util.Arrays;
import java.util.List;
import java.util.Random;

/**
 * The document once more, in the plainest form and without regard to speed:
 * told by rows of numbers, each answer found by trying all there is.
 */
final class PlainHall {
    static final int FLOOR = -1;
    static final int OUTSIDE = -2;

    final List<int[]> persons = new ArrayList<>();  // party, arm
    final List<int[]> things = new ArrayList<>();   // owner, weight, door or -1, start
    final List<Integer> doors = new ArrayList<>();
    final List<int[]> motions = new ArrayList<>();  // minute, for, against
    List<int[]> lendings = new ArrayList<>();       // thing, to, from, till
    List<int[]> votes = new ArrayList<>();          // for, against, more
    int law;

    /** One sitting, kept behind each minute. */
    static final class Course {
        int[][] holder;
        int[][] strength;
        int[] spent;
        int[] through;
    }

    int[] through(int without) {
        int[] through = new int[things.size()];
        for (int d = 0; d < doors.size(); d++) {
            int free = 0;
            for (int t = 0; t < things.size(); t++) {
                int[] thing = things.get(t);
                if (thing[2] == d && t != without) {
                    int from = Math.max(free, thing[3]);
                    through[t] = from + (thing[1] + doors.get(d) - 1) / doors.get(d);
                    free = through[t];
                }
            }
        }
        return through;
    }

    Course course(List<int[]> lent, int without, int minutes) {
        Course c = new Course();
        int n = things.size();
        c.through = through(without);
        c.holder = new int[minutes][];
        c.strength = new int[minutes][];
        c.spent = new int[persons.size()];
        Arrays.fill(c.spent, -1);
        int[] strength = new int[persons.size()];
        for (int p = 0; p < persons.size(); p++) {
            strength[p] = 60 * persons.get(p)[1];
        }
        int[] holder = new int[n];
        for (int t = 0; t < n; t++) {
            holder[t] = things.get(t)[2] >= 0 || t == without ? OUTSIDE : things.get(t)[0];
        }
        boolean[] took = new boolean[lent.size()];
        for (int m = 0; m < minutes; m++) {
            for (int t = 0; t < n; t++) {
                if (t != without && things.get(t)[2] >= 0 && c.through[t] == m) {
                    holder[t] = c.spent[things.get(t)[0]] >= 0 ? FLOOR : things.get(t)[0];
                }
            }
            for (int i = 0; i < lent.size(); i++) {
                int[] l = lent.get(i);
                if (took[i] && l[3] == m && holder[l[0]] == l[1]) {
                    int owner = things.get(l[0])[0];
                    holder[l[0]] = c.spent[owner] >= 0 ? FLOOR : owner;
                }
            }
            for (int i = 0; i < lent.size(); i++) {
                int[] l = lent.get(i);
                if (l[2] == m && holder[l[0]] == things.get(l[0])[0] && c.spent[l[1]] < 0) {
                    holder[l[0]] = l[1];
                    took[i] = true;
                }
            }
            for (int p = 0; p < persons.size(); p++) {
                strength[p] -= weigh(holder, p);
                if (strength[p] < 0 && c.spent[p] < 0) {
                    c.spent[p] = m;
                    for (int t = 0; t < n; t++) {
                        if (holder[t] == p) {
                            holder[t] = FLOOR;
                        }
                    }
                }
            }
            c.holder[m] = holder.clone();
            c.strength[m] = strength.clone();
        }
        return c;
    }

    int weigh(int[] holder, int whom) {
        int pounds = 0;
        for (int t = 0; t < holder.length; t++) {
            if (holder[t] == whom) {
                pounds += things.get(t)[1];
            }
        }
        return pounds;
    }

    int side(int[] holder, int bits, int by) {
        int all = 0;
        for (int p = 0; p < persons.size(); p++) {
            if ((bits & 1 << p) != 0) {
                int pounds = weigh(holder, p);
                all += by == 0 ? pounds : by == 1 ? (int) Math.floor(Math.sqrt(pounds)) : 1;
            }
        }
        return all;
    }

    boolean passed(Course c, int motion, int minute, int by) {
        int[] m = motions.get(motion);
        return side(c.holder[minute], m[1], by) > side(c.holder[minute], m[2], by);
    }

    int passedBits(Course c, int by) {
        int bits = 0;
        for (int m = 0; m < motions.size(); m++) {
            bits |= passed(c, m, motions.get(m)[0], by) ? 1 << m : 0;
        }
        return bits;
    }

    Course told() {
        return course(lendings, -1, 120);
    }

    int own(int person) {
        return things.stream().filter(t -> t[0] == person).mapToInt(t -> t[1]).sum();
    }

    int all() {
        return things.stream().mapToInt(t -> t[1]).sum();
    }

    /** Pounds and set, each -1 if none do. */
    int[] least(int motion) {
        int[] m = motions.get(motion);
        int against = side(told().holder[m[0]], m[2], 0);
        List<Integer> weights = new ArrayList<>();
        for (int[] t : things) {
            if (t[2] < 0 && (m[1] & 1 << t[0]) != 0 && weights.size() < 10) {
                weights.add(t[1]);
            }
        }
        List<Integer> room = new ArrayList<>();
        for (int p = 0; p < persons.size(); p++) {
            if ((m[1] & 1 << p) != 0) {
                room.add(60 * persons.get(p)[1] / (m[0] + 1));
            }
        }
        int[] best = {-1, -1};
        for (int set = 0; set < 1 << weights.size(); set++) {
            int sum = 0;
            List<Integer> chosen = new ArrayList<>();
            for (int i = 0; i < weights.size(); i++) {
                if ((set & 1 << i) != 0) {
                    sum += weights.get(i);
                    chosen.add(weights.get(i));
                }
            }
            if (sum > against && (best[0] < 0 || sum < best[0])) {
                chosen.sort((a, b) -> b - a);
                if (fits(chosen, 0, room.stream().mapToInt(r -> r).toArray())) {
                    best = new int[] {sum, set};
                }
            }
        }
        return best;
    }

    private static boolean fits(List<Integer> weights, int from, int[] room) {
        if (from == weights.size()) {
            return true;
        }
        for (int r = 0; r < room.length; r++) {
            if (room[r] >= weights.get(from)) {
                room[r] -= weights.get(from);
                boolean does = fits(weights, from + 1, room);
                room[r] += weights.get(from);
                if (does) {
                    return true;
                }
            }
        }
        return false;
    }

    int decides(int thing) {
        return passedBits(told(), law) ^ passedBits(course(lendings, thing, 120), law);
    }

    int power(int person) {
        int power = 0;
        for (int set = 0; set < 1 << persons.size(); set++) {
            if ((set & 1 << person) == 0) {
                int sum = 0;
                for (int p = 0; p < persons.size(); p++) {
                    sum += (set & 1 << p) != 0 ? own(p) : 0;
                }
                power += sum <= all() / 2.0 && sum + own(person) > all() / 2.0 ? 1 : 0;
            }
        }
        return power;
    }

    boolean wins(int parties) {
        int sum = 0;
        for (int p = 0; p < persons.size(); p++) {
            sum += (parties & 1 << persons.get(p)[0]) != 0 ? own(p) : 0;
        }
        return sum > all() / 2.0;
    }

    /** Of all 24 orders those in which a party makes the set one that wins. */
    int turned(int party) {
        return turned(party, 0);
    }

    private int turned(int party, int come) {
        int orders = 0;
        for (int next = 0; next < 4; next++) {
            if ((come & 1 << next) == 0) {
                int then = come | 1 << next;
                if (next == party) {
                    int rest = 4 - Integer.bitCount(then);
                    int behind = rest == 3 ? 6 : rest == 2 ? 2 : 1;
                    orders += !wins(come) && wins(then) ? behind : 0;
                } else {
                    orders += turned(party, then);
                }
            }
        }
        return orders;
    }

    List<Integer> together() {
        List<Integer> sets = new ArrayList<>();
        for (int set = 0; set < 16; set++) {
            boolean does = wins(set);
            for (int party = 0; party < 4; party++) {
                does &= (set & 1 << party) == 0 || !wins(set & ~(1 << party));
            }
            if (does) {
                sets.add(set);
            }
        }
        return sets;
    }

    int bring(int door, int minute) {
        return bring(door, minute, 0, 0, 0);
    }

    private int bring(int door, int minute, int taken, int now, int pounds) {
        int best = pounds;
        for (int t = 0; t < things.size(); t++) {
            int[] thing = things.get(t);
            if (thing[2] == door && (taken & 1 << t) == 0) {
                int then = Math.max(now, thing[3]) + (thing[1] + doors.get(door) - 1) / doors.get(door);
                if (then <= minute) {
                    best = Math.max(best, bring(door, minute, taken | 1 << t, then, pounds + thing[1]));
                }
            }
        }
        return best;
    }

    /** The five answers of hollow. */
    int[] hollow() {
        int sets = 0;
        int inAll = (1 << things.size()) - 1;
        int inAny = 0;
        int fewest = -1;
        for (int set = 0; set < 1 << things.size(); set++) {
            boolean right = true;
            for (int[] v : votes) {
                int more = 0;
                for (int t = 0; t < things.size(); t++) {
                    int pounds = (set & 1 << t) != 0 ? things.get(t)[1] / 2 : things.get(t)[1];
                    more += (v[0] & 1 << things.get(t)[0]) != 0 ? pounds : 0;
                    more -= (v[1] & 1 << things.get(t)[0]) != 0 ? pounds : 0;
                }
                right &= more == v[2];
            }
            if (right) {
                sets++;
                inAll &= set;
                inAny |= set;
                if (fewest < 0 || Integer.bitCount(set) < Integer.bitCount(fewest)) {
                    fewest = set;
                }
            }
        }
        if (sets == 0) {
            return new int[] {0, 0, 0, -1, -1};
        }
        int inNone = ((1 << things.size()) - 1) & ~inAny;
        return new int[] {sets, inAll, inNone, Integer.bitCount(fewest), fewest};
    }

    boolean speech(int motion, int l) {
        int minute = motions.get(motion)[0];
        List<int[]> later = new ArrayList<>();
        for (int[] lending : lendings) {
            int from = lending[2] >= minute ? lending[2] + l : lending[2];
            int till = lending[3] >= minute ? lending[3] + l : lending[3];
            later.add(new int[] {lending[0], lending[1], from, till});
        }
        return passed(course(later, -1, 200), motion, minute + l, law);
    }

    int tired(int motion) {
        boolean usual = passed(told(), motion, motions.get(motion)[0], law);
        for (int l = 1; l <= 60; l++) {
            if (speech(motion, l) != usual) {
                return l;
            }
        }
        return -1;
    }

    String hallText(Random r) {
        StringBuilder text = new StringBuilder();
        for (int[] p : persons) {
            clause(text, r, "person", p[0], p[1]);
        }
        for (int d : doors) {
            clause(text, r, "door", d);
        }
        for (int[] t : things) {
            if (t[2] < 0) {
                clause(text, r, "thing", t[0], t[1]);
            } else {
                clause(text, r, "outside", t[0], t[1], t[2], t[3]);
            }
        }
        for (int[] m : motions) {
            clause(text, r, "motion", m[0], m[1], m[2]);
        }
        if (law != 0 || r.nextBoolean()) {
            clause(text, r, "law", law);
        }
        return text.toString();
    }

    String lendingsText(Random r) {
        StringBuilder text = new StringBuilder();
        for (int[] l : lendings) {
            clause(text, r, "lend", l[0], l[1], l[2], l[3]);
        }
        return text.toString();
    }

    private static void clause(StringBuilder text, Random r, String word, int... numbers) {
        text.append(r.nextInt(9) == 0 ? " " : "").append(word);
        for (int i = 0; i < numbers.length; i++) {
            text.append(i > 0 || r.nextInt(3) > 0 ? " " : "").append(numbers[i]);
        }
        text.append(r.nextInt(9) == 0 ? " ;" : ";");
    }
}
