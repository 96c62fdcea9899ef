/** The tape of each call that reads it: empty, one byte too few, just enough, full; and what is on it then. */
public final class TapeTest {
    private static final int FULL = 260;
    private static final int FEED = 20;
    private static final int NONE = -1;

    private TapeTest() {
    }

    public static void main(String[] args) {
        feeds();
        order();
        laws();
        bills();
        codes();
        cutsAndHeirs();
        hoursAndTariffs();
        tellings();
        epitaphs();
        numbers();
        checks();
        nothingElseReads();
        Due.end();
    }

    /** The text, then what fills up the tape to so many bytes. */
    private static void lay(DeadLines x, String text, int size, char filler) {
        StringBuilder all = new StringBuilder(text);
        while (all.length() < size) {
            all.append(filler);
        }
        Due.put(x, all.toString());
    }

    /**
     * A call that reads all of a text: too few for it is an empty tape, and the feeds that lack its last byte; enough
     * is the feeds that just hold it, and a full tape, whatever is behind the text.
     */
    private static void reads(String what, String text, Twins.Call call, int due, int refused) {
        int enough = (text.length() + FEED - 1) / FEED * FEED;
        for (int size = 0; size < enough; size += FEED) {
            Twins.leavesAll(what + ": only " + size, size, call, refused);
            DeadLines x = Cases.people(16);
            lay(x, text.substring(0, Math.min(size, text.length())), size, 'a');
            Due.is(what + ": only " + size, call.on(x), refused);
            Due.is(what + ": the tape stays", x.count(8), size);
        }
        for (int size = enough; size <= FULL; size += FEED) {
            for (char filler : new char[] {'a', 0, 255, '1', ';', 'A'}) {
                DeadLines x = Cases.people(16);
                lay(x, text, size, filler);
                Due.is(what + ": laid", x.count(8), size);
                Due.is(what + ": of " + size, call.on(x), due);
                Due.is(what + ": empty then", x.count(8), 0);
                Due.is(what + ": fed anew", x.feed(0, 0, 0, 0, 0), FEED);
            }
        }
    }

    private static void reads(String what, String text, Twins.Call call, int due) {
        reads(what, text, call, due, NONE);
    }

    private static void feeds() {
        DeadLines x = new DeadLines();
        Due.is("6 none at first", x.count(8), 0);
        for (int many = FEED; many <= FULL; many += FEED) {
            Due.is("6 how many it has", x.feed(-1, -1, -1, -1, -1), many);
            Due.is("6 so many", x.count(8), many);
        }
        for (int i = 0; i < 3; i++) {
            Due.is("6 more than 260", x.feed(1, 1, 1, 1, 1), NONE);
            Due.is("6 not one byte of it", x.count(8), FULL);
        }
        x.check(0);
        Due.is("6 room again", x.feed(1, 1, 1, 1, 1), FEED);
    }

    /** Each of the twenty bytes of a feed, and of the thirteen feeds, stands at its place. */
    private static void order() {
        int[] five = {0x01020304, 0x05060708, 0x090a0b0c, 0x0d0e0f10, 0x11121314};
        for (int place = 0; place < 12; place++) {
            DeadLines x = new DeadLines();
            x.feed(five[0], five[1], five[2], five[3], five[4]);
            // Of the first place + 1 bytes all come to this sum alone.
            int sum = (place + 1) * (place + 2) / 2;
            Due.is("6 the highest first", x.heir(place + 1, sum, 1), (1 << place + 1) - 1);
        }
        for (int place = 0; place <= 240; place++) {
            DeadLines x = new DeadLines();
            String text = "v(" + "1+".repeat(117) + "1=1)";
            lay(x, text.substring(0, place) + "\377", FULL, 'a');
            Due.is("6 at its place", x.law(240), place < 240 ? -1000 - place : 1);
        }
        for (int b = 0; b < 256; b++) {
            DeadLines y = new DeadLines();
            y.feed(b << 24, 0, 0, 0, 0);
            Due.is("6 each byte from 0 to 255", y.heir(1, b, 1), b == 0 ? 0 : 1);
            y.feed(0, 0, 0, 0, b);
            Due.is("6 the lowest last", y.heir(1, 0, 0), 2);
        }
    }

    private static void laws() {
        reads("7", "r", x -> x.law(1), -1001);
        String twenty = "x(s+1+1+1+1+1+1+1=7)";
        reads("7", twenty, x -> x.law(20), 1);
        reads("7", twenty + ";", x -> x.law(21), -1021);
        reads("7", "v(" + "1+".repeat(107) + "1=1)", x -> x.law(220), 1);
        reads("7", "v(" + "1+".repeat(107) + "1=1);", x -> x.law(221), -1221);
        reads("7", "v(" + "1+".repeat(117) + "1=1)", x -> x.law(240), 1);
    }

    private static void bills() {
        reads("8", "a", x -> x.bill(1), -1001);
        reads("8", "a+1;b+23;F+4567;p+89", x -> x.bill(20), 4);
        reads("8", "a+1;b+23;F+4567;p+89;", x -> x.bill(21), -1021);
        reads("8", "a+1234;".repeat(14) + "a_", x -> x.bill(100), 15);
        reads("8", "a+1234;".repeat(14) + "a_;", x -> x.bill(101), -1101);
        reads("8", "a+123;".repeat(19) + "a+1234", x -> x.bill(120), 20);
    }

    private static void codes() {
        reads("9", "1", x -> x.code(0, 1), 1);
        reads("9", "123456", x -> x.code(7, 6), 6);
        reads("9", "12345a", x -> x.code(7, 6), -1005);
    }

    private static void cutsAndHeirs() {
        reads("20", "\5\1", x -> x.cut(1, 1, 0), 5);
        reads("20", "\1\0".repeat(10), x -> x.cut(10, 0, 0), 10);
        reads("20", "\1\0".repeat(11), x -> x.cut(11, 0, 0), 11);
        reads("20", "\1\0".repeat(12), x -> x.cut(12, 0, 1), 4095);
        reads("21", "\5", x -> x.heir(1, 5, 0), 1);
        reads("21", "\1".repeat(12), x -> x.heir(12, 12, 1), 4095);
        reads("21", "\1".repeat(12), x -> x.heir(12, 13, 1), -2);
    }

    private static void hoursAndTariffs() {
        reads("22", "\5\1", x -> x.busy(1, 1), 5);
        reads("22", "\5\1".repeat(10), x -> x.busy(10, 0), 10);
        reads("22", "\5\1".repeat(10), x -> x.busy(10, 104), 2);
        reads("22", "\5\1".repeat(9) + "\5\0", x -> x.busy(10, 1), -2);
        reads("23", "\5\1", x -> x.cheapest(1, 6, 100), 2);
        reads("23", "\5\1".repeat(5), x -> x.cheapest(5, 6, 4), 0);
        reads("23", "\5\1".repeat(4) + "\5\0", x -> x.cheapest(5, 6, 4), -2);
    }

    private static void tellings() {
        reads("24", "\377\0", x -> x.told(2, 1), 1);
        reads("24", "\0".repeat(16), x -> x.told(16, 0), 15);
        reads("24", "\0".repeat(15) + "\17", x -> x.told(16, 0), -2);
    }

    private static void epitaphs() {
        reads("25", "BA", x -> x.epitaph(1, 1, false, 0), 1);
        reads("25", "B".repeat(10) + "A".repeat(10), x -> x.epitaph(10, 10, false, 9), 1);
        reads("25", "B".repeat(10) + "A".repeat(11), x -> x.epitaph(10, 11, false, 10), 1);
        reads("25", "B".repeat(11) + "A".repeat(10), x -> x.epitaph(11, 10, false, 9), 1);
        reads("25", "B".repeat(20) + "A".repeat(20), x -> x.epitaph(20, 20, true, 19), 1);
        reads("25", "B".repeat(20) + "A".repeat(21), x -> x.epitaph(20, 21, true, 20), 1);
        reads("25", "B".repeat(30) + "A".repeat(11), x -> x.epitaph(30, 11, true, 0), 1);
        reads("25", "B".repeat(30) + "A".repeat(30), x -> x.epitaph(30, 30, true, 29), 1);
        reads("25", "B".repeat(30) + "A".repeat(29) + "a", x -> x.epitaph(30, 30, true, 0), -1059);
    }

    private static void numbers() {
        reads("26", "1", x -> x.dialled(1, 0), -2);
        reads("26", "123456789012", x -> x.dialled(12, 1), -2);
        reads("26", "12345678901a", x -> x.dialled(12, 1), -1011);
    }

    private static void checks() {
        reads("32", "\0", x -> x.check(1), NONE, -2);
        reads("32", "\0".repeat(16), x -> x.check(16), NONE, -2);
        reads("32", "\0".repeat(15) + "\1", x -> x.check(16), 15, -2);
        reads("32", "", x -> x.check(0), NONE, -2);
    }

    /** All other calls leave the tape as it is. */
    private static void nothingElseReads() {
        DeadLines x = new DeadLines();
        lay(x, "x(s=0)", 40, 'a');
        x.trunk(0, 1, 2);
        x.subscriber(0, 0, true);
        x.fund(5);
        x.rate(2, 2);
        x.minutes(3);
        x.tried(3, 0);
        x.subscriberIs(0, 0);
        x.callIs(0, 0);
        x.circuits(0, 1, 0);
        x.route(0, 1, 100);
        x.fundLasts(5);
        x.atOnce(0, 1);
        x.stops(0, 1);
        x.inTheMiddle();
        x.clear();
        x.freeCode(3);
        x.seed(5);
        x.keep();
        x.undo();
        x.count(8);
        Due.is("6 it stays", x.count(8), 40);
        Due.is("6 and what is on it", x.law(6), 1);
        Due.is("6 as it was", x.tried(1, 3), 1);
    }
}
