import java.nio.charset.StandardCharsets;

/** What the tests share: a tally of wrong answers, and texts put on the tape. */
final class Due {
    private static int wrong = 0;
    private static int asked = 0;

    private Due() {
    }

    static void is(String what, long got, long want) {
        asked++;
        if (got != want) {
            wrong++;
            System.out.println(what + " answered " + got + ", due is " + want);
        }
    }

    static void is(String what, boolean got, boolean want) {
        is(what, got ? 1 : 0, want ? 1 : 0);
    }

    static int wrong() {
        return wrong;
    }

    /** To be called last by each main: ends the run with 1 if an answer was wrong. */
    static void end() {
        System.out.println(wrong == 0 ? "all " + asked + " answers are as due" : wrong + " answers are not as due");
        if (wrong != 0) {
            System.exit(1);
        }
    }

    /** The bytes, filled up with 'a' to whole feeds. */
    static void put(DeadLines x, byte[] bytes) {
        for (int from = 0; from < bytes.length; from += 20) {
            int[] five = new int[5];
            for (int i = 0; i < 20; i++) {
                int b = from + i < bytes.length ? bytes[from + i] & 255 : 'a';
                five[i / 4] = five[i / 4] << 8 | b;
            }
            x.feed(five[0], five[1], five[2], five[3], five[4]);
        }
    }

    static void put(DeadLines x, String text) {
        put(x, text.getBytes(StandardCharsets.ISO_8859_1));
    }

    static void put(DeadLines x, int... bytes) {
        byte[] all = new byte[bytes.length];
        for (int i = 0; i < bytes.length; i++) {
            all[i] = (byte) bytes[i];
        }
        put(x, all);
    }

    static int law(DeadLines x, String text) {
        put(x, text);
        return x.law(text.length());
    }

    static int bill(DeadLines x, String text) {
        put(x, text);
        return x.bill(text.length());
    }

    static int code(DeadLines x, int e, String text) {
        put(x, text);
        return x.code(e, text.length());
    }

    static int dialled(DeadLines x, String text, int what) {
        put(x, text);
        return x.dialled(text.length(), what);
    }

    static int epitaph(DeadLines x, String key, String text, boolean back, int what) {
        put(x, key + text);
        return x.epitaph(key.length(), text.length(), back, what);
    }
}
