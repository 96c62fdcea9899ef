import java.util.ArrayList;
import java.util.List;

/**
 * Two objects with the same past, of which one is asked something: behind it all that can be seen of both, now and
 * behind an undo, must be alike but for what was told.
 */
final class Twins {
    static final int MIN = Integer.MIN_VALUE;
    static final int MAX = Integer.MAX_VALUE;
    private static final int LAW_BYTES = 240;
    private static final int FEED = 20;
    private static final String[] NUMBERS = {"012", "0123", "45", "4", "98765432109", "987654", "98765", "6"};

    private Twins() {
    }

    /** A call; a boolean counts 1 or 0. */
    interface Call {
        long on(DeadLines x);
    }

    static long number(boolean b) {
        return b ? 1 : 0;
    }

    /** A call that leaves all as it was, the tape, too (which holds so many bytes). */
    static void leavesAll(String what, int tape, Call call, long due) {
        alike(what, tape, call, due, x -> 0);
    }

    /** A call that leaves all as it was but for the tape, which is empty then. */
    static void emptiesTape(String what, int tape, Call call, long due) {
        // Behind it the tape is empty, and nothing else is done.
        alike(what, tape, call, due, x -> x.check(0));
    }

    /** A text that is put on an empty tape and read by a call that does nothing else but empty it. */
    static void readsInVain(String what, String text, Call call, long due) {
        Call whole = x -> {
            Due.put(x, text);
            return call.on(x);
        };
        alike(what + " " + text, 0, whole, due, x -> 0);
    }

    /** Refused with each of these values, whatever the tape holds. */
    static void refuses(String what, IntCall call, long due, int... values) {
        for (int value : values) {
            leavesAll(what + " " + value, 260, x -> call.on(x, value), due);
        }
    }

    /** A call with one argument that is tried out. */
    interface IntCall {
        long on(DeadLines x, int value);
    }

    /** The one is asked by a call, the other by another; behind them both are alike. */
    static void alike(String what, int tape, Call call, long due, Call other) {
        for (int look = 0; look < 2; look++) {
            DeadLines asked = rich(tape);
            DeadLines left = rich(tape);
            Due.is(what, call.on(asked), due);
            other.on(left);
            List<Integer> seen = look == 0 ? seenNow(asked) : seenUndone(asked);
            List<Integer> wanted = look == 0 ? seenNow(left) : seenUndone(left);
            for (int i = 0; i < wanted.size(); i++) {
                Due.is(what + ": look " + look + " at " + i, seen.get(i), wanted.get(i));
            }
        }
    }

    /** Calls, arrears, a law, codes, a tape; kept, with changes behind it. */
    static DeadLines rich(int tape) {
        DeadLines x = new DeadLines();
        x.trunk(0, 1, 2);
        x.trunk(1, 2, 3);
        x.trunk(2, 3, 1);
        x.trunk(3, 4, 9);
        x.trunk(6, 7, 4);
        x.rate(7, 11);
        x.fund(54321);
        x.subscriber(0, 0, true);
        x.subscriber(1, 2, false);
        x.subscriber(2, 3, true);
        x.subscriber(3, 4, false);
        x.subscriber(5, 7, true);
        x.subscriber(15, 0, false);
        Due.code(x, 0, "012");
        Due.code(x, 4, "45");
        Due.code(x, 7, "987654");
        Due.law(x, "r10(s=0|s=2);r3(s>4);ws+1(s<5);w4(1=1);l50-s(1=1);v(d=1&n=2);x(o>900&s=2)");
        x.seed(4711);
        Due.bill(x, "a+17;c+700;f+5;p+300;f^");
        x.minutes(3);
        x.keep();
        x.subscriber(4, 6, true);
        x.subscriber(9, 5, true);
        Due.bill(x, "e+1234;e!;f_;F+77;d^;j+9;p*");
        x.minutes(2);
        Due.put(x, lawOf(tape).toString());
        return x;
    }

    /** So many bytes (in twenties), the first 240 of which are a law that holds only if no byte is another. */
    private static StringBuilder lawOf(int tape) {
        StringBuilder text = new StringBuilder();
        int length = Math.min(tape, LAW_BYTES);
        if (length >= FEED) {
            int room = length - "x(".length() - "=12345)".length();
            int zeros = (room - 1) % 3 + 1;
            int sum = 0;
            text.append("x(").append("000", 0, zeros);
            for (int i = 0; i < (room - zeros) / 3; i++) {
                int more = 10 + i * 37 % 90;
                text.append('+').append(more);
                sum += more;
            }
            text.append("=").append(String.format("%05d", sum)).append(")");
        }
        while (text.length() < tape) {
            text.append('z');
        }
        return text;
    }

    static long undoAndKeep(DeadLines x) {
        x.undo();
        x.keep();
        return 0;
    }

    private static List<Integer> seenNow(DeadLines x) {
        List<Integer> seen = new ArrayList<>();
        addWorld(seen, x);
        for (int e = 0; e < 8; e++) {
            for (int q = 0; q < e; q++) {
                seen.add(x.circuits(e, q, 0));
            }
        }
        int tape = Math.min(x.count(8), LAW_BYTES);
        if (tape > 0) {
            seen.add(x.law(tape));
            seen.add(x.tried(1, 3));
        }
        for (String number : NUMBERS) {
            seen.add(Due.dialled(x, number, 0));
            seen.add(Due.dialled(x, number, 1));
        }
        return seen;
    }

    private static List<Integer> seenUndone(DeadLines x) {
        List<Integer> seen = new ArrayList<>();
        seen.add(x.undo() ? 1 : 0);
        addWorld(seen, x);
        return seen;
    }

    private static void addWorld(List<Integer> seen, DeadLines x) {
        for (int what = 0; what < 18; what++) {
            seen.add(x.count(what));
        }
        for (int s = 0; s < 16; s++) {
            for (int what = 0; what < 8; what++) {
                seen.add(x.subscriberIs(s, what));
            }
        }
        for (int i = 0; i < 8; i++) {
            for (int what = 0; what < 5; what++) {
                seen.add(x.callIs(i, what));
            }
        }
        for (int e = 0; e < 8; e++) {
            for (int q = 0; q < e; q++) {
                seen.add(x.circuits(e, q, 1));
            }
        }
        for (int what = 0; what < 5; what++) {
            seen.add(x.tried(60, what));
            seen.add(x.tried(5, what));
        }
        for (int s = 0; s < 16; s++) {
            seen.add(x.tried(6, 100 + s));
        }
    }
}
