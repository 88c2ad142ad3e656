import java.util.ArrayList;
import java.util.List;
import java.util.Random;
import java.util.regex.Matcher;
import java.util.regex.Pattern;

/** Promises 3, 4 and 5 on texts that were spoilt here and there, against a reader of another make. */
public final class FaultsTest {
    private static final Check CHECK = new Check();
    private static final Pattern TOKEN = Pattern.compile("[a-z]+|[0-9]+|[^ ]", Pattern.DOTALL);
    private static final String SIGNS = "0123456789 ;;  aelnpswxX-\t\u00e9\0";
    private static final String[] WORDS = {"person", "thing", "door", "outside", "motion", "law", "lend"};

    private final List<int[]> tokens = new ArrayList<>(); // from, to
    private final String text;
    private final int[] told = new int[7];
    private final List<Integer> owners = new ArrayList<>();
    private int next;
    private int kind;
    private int place = -1;

    private FaultsTest(String text) {
        this.text = text;
        Matcher m = TOKEN.matcher(text);
        while (m.find()) {
            tokens.add(new int[] {m.start(), m.end()});
        }
    }

    public static void main(String[] args) {
        int runs = args.length > 0 ? Integer.parseInt(args[0]) : 30000;
        for (int seed = 0; seed < runs; seed++) {
            Random r = Check.drawn(seed);
            String hall = spoil(drawHall(r), r, 600);
            String lendings = spoil(drawLendings(r), r, 300);
            WeighedHall x = new WeighedHall();
            FaultsTest plain = new FaultsTest(hall);
            plain.read(false);
            CHECK.due("hall '" + hall + "'", Check.hall(x, hall), plain.kind == 0 ? plain.told[0] : plain.kind - 10);
            CHECK.due("fault of '" + hall + "'", x.fault(), plain.place);
            x = Check.told("person 0 1;person 0 1;person 0 1;thing 0 1;thing 2 1;");
            plain = new FaultsTest(lendings);
            plain.told[0] = 3;
            plain.told[1] = 2;
            plain.owners.addAll(List.of(0, 2));
            plain.read(true);
            CHECK.due("lend '" + lendings + "'", Check.lend(x, lendings),
                    plain.kind == 0 ? plain.told[6] : plain.kind - 10);
            CHECK.due("fault of '" + lendings + "'", x.fault(), plain.place);
        }
        CHECK.end("FaultsTest");
    }

    private static String drawHall(Random r) {
        StringBuilder s = new StringBuilder();
        int clauses = r.nextInt(r.nextInt(8) == 0 ? 90 : 12);
        for (int i = 0; i < clauses && s.length() < 570; i++) {
            int k = i == 0 ? 0 : r.nextInt(r.nextInt(5) == 0 ? 7 : 6);
            if (clauses > 50) {
                k = r.nextInt(20) == 0 ? k : 5;
            }
            s.append(WORDS[k]);
            int[][] ranges = {{3, 99}, {2, 99}, {99}, {2, 99, 1, 99}, {119, 7, 7}, {2}, {1, 1, 1, 1}};
            for (int range : ranges[k]) {
                s.append(' ').append(r.nextInt(range + 1));
            }
            s.append(';');
        }
        return s.toString();
    }

    private static String drawLendings(Random r) {
        StringBuilder s = new StringBuilder();
        int number = r.nextInt(r.nextInt(4) == 0 ? 25 : 5);
        for (int i = 0; i < number && s.length() < 280; i++) {
            int thing = r.nextInt(2);
            int from = r.nextInt(10);
            s.append("lend ").append(thing).append(' ').append(r.nextInt(9) > 0 ? 1 : r.nextInt(3));
            s.append(' ').append(from).append(' ').append(from + (r.nextInt(9) > 0 ? 1 : r.nextInt(120))).append(';');
        }
        return s.toString();
    }

    private static String spoil(String text, Random r, int most) {
        StringBuilder s = new StringBuilder(text);
        int times = r.nextInt(4);
        for (int i = 0; i < times; i++) {
            int at = r.nextInt(s.length() + 1);
            char sign = SIGNS.charAt(r.nextInt(SIGNS.length()));
            if (at == s.length() || r.nextInt(3) == 0) {
                s.insert(at, sign);
            } else if (r.nextBoolean()) {
                s.setCharAt(at, sign);
            } else {
                s.deleteCharAt(at);
            }
        }
        if (r.nextInt(6) == 0) {
            s.setLength(r.nextInt(s.length() + 1));
        }
        if (s.length() > most) {
            s.setLength(most);
        }
        return s.toString();
    }

    private void read(boolean lendings) {
        int clauses = 0;
        while (kind == 0 && next < tokens.size()) {
            String word = take();
            int k = List.of(WORDS).indexOf(word);
            if (k < 0 || (k == 6) != lendings) {
                fail(1);
            } else if (clauses == (lendings ? 20 : 60) || isFull(k)) {
                fail(3);
            } else {
                numbers(k);
                if (kind == 0 && !";".equals(take())) {
                    fail(1);
                }
            }
            clauses++;
        }
    }

    private boolean isFull(int k) {
        switch (k) {
            case 0:
                return told[0] == 10;
            case 1:
            case 3:
                return told[1] == 14;
            case 2:
                return told[2] == 3;
            case 4:
                return told[4] == 8;
            default:
                return false;
        }
    }

    private void numbers(int k) {
        int bits = (1 << told[0]) - 1;
        switch (k) {
            case 0:
                among(0, 3);
                among(1, 99);
                told[0]++;
                break;
            case 1:
            case 3:
                among(0, told[0] - 1);
                among(1, 99);
                if (k == 3) {
                    among(0, told[2] - 1);
                    among(0, 99);
                }
                told[1]++;
                break;
            case 2:
                among(1, 99);
                told[2]++;
                break;
            case 4:
                among(0, 119);
                int f = among(0, bits);
                int g = among(0, bits);
                if (kind == 0 && (f & g) != 0) {
                    fail(2);
                }
                told[4]++;
                break;
            case 5:
                among(0, 2);
                break;
            default:
                int x = among(0, told[1] - 1);
                int y = among(0, told[0] - 1);
                if (kind == 0 && owners.get(x) == y) {
                    fail(2);
                }
                int t = among(0, 119);
                among(t + 1, 120);
                told[6]++;
        }
    }

    private int among(int least, int most) {
        if (kind != 0) {
            return 0;
        }
        String token = take();
        if (token == null || !token.matches("[0-9]+")) {
            fail(1);
            return 0;
        }
        java.math.BigInteger number = new java.math.BigInteger(token);
        if (number.compareTo(java.math.BigInteger.valueOf(least)) < 0
                || number.compareTo(java.math.BigInteger.valueOf(most)) > 0) {
            fail(2);
            return 0;
        }
        return number.intValue();
    }

    private String take() {
        next++;
        return next > tokens.size() ? null : text.substring(tokens.get(next - 1)[0], tokens.get(next - 1)[1]);
    }

    /** The token that was taken last is the one at fault. */
    private void fail(int k) {
        kind = k;
        place = next > tokens.size() ? text.length() : tokens.get(next - 1)[0];
    }
}
