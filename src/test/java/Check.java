import java.nio.charset.StandardCharsets;

/** What the tests share: answers that are due, and texts put on the tape. */
final class Check {
    static final int NOTHING = -2_000_000_000;
    private static int asked = 0;
    private static int wrong = 0;

    private Check() {
    }

    static void due(String call, long got, long want) {
        asked++;
        if (got != want) {
            wrong++;
            if (wrong <= 50) {
                System.out.println(call + " answered " + got + ", due is " + want);
            }
        }
    }

    /** The call's answer, and status() behind it. */
    static void refused(FirstPolls x, String call, long got, long want) {
        due(call, got, want);
        due("status() behind " + call, x.status(), want);
    }

    static void accepted(FirstPolls x, String call, long got, long want) {
        due(call, got, want);
        due("status() behind " + call, x.status(), 0);
    }

    static void tape(FirstPolls x, byte[] bytes) {
        int had = x.all(8);
        for (int i = 0; i < bytes.length; i += 20) {
            int[] five = new int[5];
            for (int j = 0; j < 20; j++) {
                int b = i + j < bytes.length ? bytes[i + j] & 255 : 32;
                five[j / 4] = (five[j / 4] << 8) | b;
            }
            x.feed(five[0], five[1], five[2], five[3], five[4]);
        }
        due("end()", x.end(had + bytes.length), had + bytes.length);
    }

    static void tape(FirstPolls x, String text) {
        tape(x, text.getBytes(StandardCharsets.ISO_8859_1));
    }

    static int orders(FirstPolls x, int from, String text) {
        tape(x, text);
        return x.order(from);
    }

    /** A text that can't be, with the place of its fault. */
    static void faulty(FirstPolls x, String text, int place) {
        due("order of '" + text + "'", orders(x, 0, text), -6);
        due("fault of '" + text + "'", x.fault(), place);
    }

    static void fine(FirstPolls x, String text) {
        int texts = x.all(2);
        due("order of '" + text + "'", orders(x, 0, text), texts);
        due("fault of '" + text + "'", x.fault(), FirstPolls.NONE);
    }

    static int letters(String four) {
        int packed = 0;
        for (int i = 0; i < 4; i++) {
            packed = (packed << 8) | four.charAt(i);
        }
        return packed;
    }

    static String times(String part, int n) {
        return part.repeat(n);
    }

    static void close(String test) {
        System.out.println(test + ": " + asked + " answers, " + wrong + " not as due");
        if (wrong != 0 || asked == 0) {
            System.exit(1);
        }
    }
}
