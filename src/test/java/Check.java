import java.nio.charset.StandardCharsets;
import java.util.Arrays;
import java.util.NoSuchElementException;
import java.util.Random;

/** What all tests of the project share: telling a text to a hall, and counting answers that are not as due. */
final class Check {
    private int wrong;
    private int asked;
    private String sentence = "";

    /** A call that may be refused. */
    interface Call {
        long answer();
    }

    void due(String call, long got, long want) {
        asked++;
        if (got != want) {
            wrong++;
            System.out.println(sentence + call + " answered " + got + ", due is " + want);
        }
    }

    /** The document's sentence that the next answers are asked for. */
    void says(String words) {
        sentence = "\"" + words + "\": ";
    }

    void same(String call, String got, String want) {
        due(call + " left '" + got + "', due is '" + want + "':", got.equals(want), true);
    }

    void due(String call, boolean got, boolean want) {
        due(call, got ? 1 : 0, want ? 1 : 0);
    }

    void noSuch(String call, Call body) {
        due(call + " refused as (1 NoSuchElementException, 2 IllegalArgumentException)", refusal(body), 1);
    }

    void illegal(String call, Call body) {
        due(call + " refused as (1 NoSuchElementException, 2 IllegalArgumentException)", refusal(body), 2);
    }

    static int refusal(Call body) {
        try {
            body.answer();
            return 0;
        } catch (NoSuchElementException e) {
            return 1;
        } catch (IllegalArgumentException e) {
            return 2;
        }
    }

    void end(String name) {
        System.out.println(name + ": " + asked + " answers, " + wrong + " not as due");
        if (wrong != 0 || asked == 0) {
            System.exit(1);
        }
    }

    /** Feeds a text, filled up with zeros to whole twenties. */
    static void feed(WeighedHall x, String text) {
        byte[] raw = text.getBytes(StandardCharsets.ISO_8859_1);
        byte[] bytes = Arrays.copyOf(raw, (raw.length + 19) / 20 * 20);
        for (int i = 0; i < bytes.length; i += 20) {
            x.feed(number(bytes, i), number(bytes, i + 4), number(bytes, i + 8),
                    number(bytes, i + 12), number(bytes, i + 16));
        }
    }

    private static int number(byte[] bytes, int from) {
        int number = 0;
        for (int i = from; i < from + 4; i++) {
            number = number << 8 | bytes[i] & 255;
        }
        return number;
    }

    /** The first draws of neighbouring small seeds are nearly alike, so the seeds are spread. */
    static Random drawn(int seed) {
        return new Random((seed + 1) * 0x9E3779B97F4A7C15L);
    }

    static int hall(WeighedHall x, String text) {
        feed(x, text);
        return x.hall(text.length());
    }

    static int lend(WeighedHall x, String text) {
        feed(x, text);
        return x.lend(text.length());
    }

    static WeighedHall told(String text) {
        WeighedHall x = new WeighedHall();
        if (hall(x, text) < 0) {
            throw new IllegalStateException("the test's own hall has a fault at " + x.fault() + ": " + text);
        }
        return x;
    }
}
