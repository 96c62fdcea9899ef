/**
 * What each call refuses: the first value on both sides that may not stand and the least and the largest int, and
 * behind it a look that nothing has changed; beside it the last values that may stand.
 */
public final class RefusedTest {
    private static final int MIN = Twins.MIN;
    private static final int MAX = Twins.MAX;
    private static final int NONE = -1;
    private static final int[] NO_EXCHANGE = {-1, 8, MIN, MAX};
    private static final int[] NO_MINUTES = {0, -1, 241, MIN, MAX};
    private static final int[] NO_FLAG = {-1, 2, MIN, MAX};

    private RefusedTest() {
    }

    public static void main(String[] args) {
        richIsRich();
        trunk();
        subscriber();
        fund();
        rate();
        feed();
        readTexts();
        minutes();
        tried();
        subscriberIs();
        callIs();
        circuits();
        route();
        fundLasts();
        flows();
        cut();
        heir();
        busy();
        cheapest();
        told();
        epitaph();
        dialled();
        plans();
        seed();
        undo();
        check();
        count();
        Due.end();
    }

    /** The looks see something only if there is something to be lost. */
    private static void richIsRich() {
        DeadLines x = Twins.rich(260);
        Due.is("rich: calls", x.count(6), 2);
        Due.is("rich: tape", x.count(8), 260);
        Due.is("rich: cut off", x.count(4), 1 << 4);
        Due.is("rich: fund", x.count(1) < 54321 + 77, true);
        Due.is("rich: the law on the tape holds", x.law(240), 1);
        Due.is("rich: for all that are connected", x.tried(1, 3), Integer.bitCount(x.count(2) & ~x.count(4)));
        Due.is("rich: undo", x.undo(), true);
        Due.is("rich: calls then", x.count(6), 2);
        Due.is("rich: minute then", x.count(0), 3);
    }

    private static void trunk() {
        Twins.refuses("2 e", (x, v) -> Twins.number(x.trunk(v, 3, 4)), 0, NO_EXCHANGE);
        Twins.refuses("2 q", (x, v) -> Twins.number(x.trunk(3, v, 4)), 0, NO_EXCHANGE);
        Twins.refuses("2 circuits", (x, v) -> Twins.number(x.trunk(0, 1, v)), 0, -1, 10, MIN, MAX);
        Twins.refuses("2 the same", (x, v) -> Twins.number(x.trunk(v, v, 4)), 0, 0, 1, 2, 3, 4, 5, 6, 7, 8, -1);
        DeadLines x = new DeadLines();
        for (int e = 0; e < 8; e++) {
            for (int q = 0; q < 8; q++) {
                if (e != q) {
                    int many = (e + q) % 2 == 0 ? 9 : 1;
                    Due.is("2 each two", x.trunk(e, q, many), true);
                    Due.is("2 one way", x.circuits(e, q, 0), many);
                    Due.is("2 the other", x.circuits(q, e, 0), many);
                    Due.is("2 none again", x.trunk(q, e, 0), true);
                    Due.is("2 none one way", x.circuits(e, q, 0), 0);
                }
            }
        }
    }

    private static void subscriber() {
        int[] nobody = {-1, 16, 32, MIN, MAX};
        Twins.refuses("3 s", (x, v) -> Twins.number(x.subscriber(v, 3, true)), 0, nobody);
        Twins.refuses("3 s, dead", (x, v) -> Twins.number(x.subscriber(v, 3, false)), 0, nobody);
        Twins.refuses("3 e", (x, v) -> Twins.number(x.subscriber(0, v, true)), 0, NO_EXCHANGE);
        Twins.refuses("3 e, dead", (x, v) -> Twins.number(x.subscriber(0, v, false)), 0, NO_EXCHANGE);
        for (int s = 0; s < 16; s += 15) {
            for (int e = 0; e < 8; e += 7) {
                DeadLines x = new DeadLines();
                Due.is("3 first and last", x.subscriber(s, e, false), true);
                Due.is("3 told", x.count(2), 1 << s);
                Due.is("3 at", x.subscriberIs(s, 0), e);
            }
        }
    }

    private static void fund() {
        Twins.refuses("4", (x, v) -> Twins.number(x.fund(v)), 0, -1, 1000000, MIN, MAX);
        DeadLines x = new DeadLines();
        for (int pence : new int[] {999999, 0, 1}) {
            Due.is("4 may stand", x.fund(pence), true);
            Due.is("4 stands", x.count(1), pence);
        }
    }

    private static void rate() {
        Twins.refuses("5 trunk", (x, v) -> Twins.number(x.rate(v, 5)), 0, -1, 100, MIN, MAX);
        Twins.refuses("5 call", (x, v) -> Twins.number(x.rate(5, v)), 0, -1, 100, MIN, MAX);
        int[][] rates = {{0, 0}, {99, 0}, {0, 99}, {99, 99}};
        for (int[] r : rates) {
            DeadLines x = Cases.talking(9);
            Due.is("5 may stand", x.rate(r[0], r[1]), true);
            x.minutes(1);
            Due.is("5 is charged", x.subscriberIs(0, 4), 2 * r[0] + r[1]);
        }
    }

    private static void feed() {
        Twins.leavesAll("6 full", 260, x -> x.feed(1, 2, 3, 4, 5), NONE);
        Twins.leavesAll("6 full, and once more", 260, x -> {
            x.feed(MIN, MIN, MIN, MIN, MIN);
            return x.feed(MAX, MAX, MAX, MAX, MAX);
        }, NONE);
        DeadLines x = Twins.rich(240);
        Due.is("6 the last twenty", x.feed(MIN, MAX, -1, 0, 1), 260);
        DeadLines y = new DeadLines();
        Due.is("6 the first twenty", y.feed(MIN, MAX, -1, 0, 1), 20);
    }

    private static void readTexts() {
        Twins.refuses("7 n", (x, v) -> x.law(v), NONE, 0, -1, 241, 260, MIN, MAX);
        Twins.refuses("8 n", (x, v) -> x.bill(v), NONE, 0, -1, 121, 260, MIN, MAX);
        Twins.refuses("9 n", (x, v) -> x.code(0, v), NONE, 0, -1, 7, MIN, MAX);
        Twins.refuses("9 e", (x, v) -> x.code(v, 1), NONE, NO_EXCHANGE);
    }

    private static void minutes() {
        Twins.refuses("10 n", (x, v) -> x.minutes(v), NONE, NO_MINUTES);
        for (int n : new int[] {1, 240}) {
            DeadLines x = Twins.rich(20);
            int before = x.count(0);
            Due.is("10 may go by", x.minutes(n) >= 0, true);
            Due.is("10 went by", x.count(0), before + n);
        }
    }

    private static void tried() {
        Twins.refuses("11 n", (x, v) -> x.tried(v, 0), NONE, NO_MINUTES);
        Twins.refuses("11 n of arrears", (x, v) -> x.tried(v, 100), NONE, NO_MINUTES);
        int[] nothing = {-1, 5, 6, 99, 106, 108, 110, 114, 116, 132, MIN, MIN + 99, MIN + 100, MAX};
        Twins.refuses("11 what", (x, v) -> x.tried(1, v), NONE, nothing);
        DeadLines first = Twins.rich(0);
        for (int n : new int[] {1, 240}) {
            for (int what : new int[] {0, 1, 2, 3, 4, 100, 101, 115}) {
                int due = first.tried(n, what);
                Due.is("11 may be asked", due >= 0, true);
                Twins.leavesAll("11 nothing is changed", 260, x -> x.tried(n, what), due);
            }
        }
    }

    private static void subscriberIs() {
        for (int what = 0; what < 8; what++) {
            int asked = what;
            Twins.refuses("12 s", (x, v) -> x.subscriberIs(v, asked), NONE, -1, 16, 31, 32, 33, MIN, MAX);
            Twins.refuses("12 not told", (x, v) -> x.subscriberIs(v, asked), NONE, 6, 7, 8, 10, 14);
            Due.is("12 may be asked of 0", Twins.rich(0).subscriberIs(0, what) == NONE, false);
            Due.is("12 may be asked of 15", Twins.rich(0).subscriberIs(15, what) == NONE, false);
        }
        Twins.refuses("12 what", (x, v) -> x.subscriberIs(0, v), NONE, -1, 8, MIN, MAX);
        Twins.refuses("12 what of the last", (x, v) -> x.subscriberIs(15, v), NONE, -1, 8, MIN, MAX);
        Twins.leavesAll("12 nobody", 20, x -> x.subscriberIs(15, 5), -2);
    }

    private static void callIs() {
        for (int what = 0; what < 5; what++) {
            int asked = what;
            Twins.refuses("13 i", (x, v) -> x.callIs(v, asked), NONE, -1, 20, MIN, MAX);
            Twins.refuses("13 none there", (x, v) -> x.callIs(v, asked), -2, 2, 7, 8, 18, 19);
            Due.is("13 there", Twins.rich(0).callIs(0, what) >= 0, true);
        }
        Twins.refuses("13 what", (x, v) -> x.callIs(0, v), NONE, -1, 5, MIN, MAX);
        Twins.refuses("13 what, none there", (x, v) -> x.callIs(19, v), NONE, -1, 5, MIN, MAX);
    }

    private static void circuits() {
        for (int what = 0; what < 2; what++) {
            int asked = what;
            Twins.refuses("14 e", (x, v) -> x.circuits(v, 3, asked), NONE, NO_EXCHANGE);
            Twins.refuses("14 q", (x, v) -> x.circuits(3, v, asked), NONE, NO_EXCHANGE);
            Twins.refuses("14 the same", (x, v) -> x.circuits(v, v, asked), NONE, 0, 1, 2, 3, 4, 5, 6, 7);
        }
        Twins.refuses("14 what", (x, v) -> x.circuits(0, 1, v), NONE, NO_FLAG);
        Due.is("14 first and last", Twins.rich(0).circuits(0, 7, 0), 0);
        Due.is("14 last and first", Twins.rich(0).circuits(7, 0, 1), 0);
    }

    private static void route() {
        int[] nothing = {-1, 8, 99, 101, MIN, MAX};
        for (int what : new int[] {0, 7, 100}) {
            Twins.refuses("15 e", (x, v) -> x.route(v, 3, what), NONE, NO_EXCHANGE);
            Twins.refuses("15 q", (x, v) -> x.route(3, v, what), NONE, NO_EXCHANGE);
            Twins.leavesAll("15 no route", 20, x -> x.route(0, 7, what), -2);
        }
        Twins.refuses("15 what", (x, v) -> x.route(6, 7, v), NONE, nothing);
        Twins.refuses("15 what, no route", (x, v) -> x.route(0, 7, v), NONE, nothing);
        Twins.refuses("15 no such place", (x, v) -> x.route(7, 6, v), -4, 2, 3, 7);
        Twins.leavesAll("15 trunks", 20, x -> x.route(7, 6, 100), 1);
        Twins.leavesAll("15 first", 20, x -> x.route(7, 6, 0), 7);
        Twins.leavesAll("15 last", 20, x -> x.route(7, 6, 1), 6);
    }

    private static void fundLasts() {
        Twins.refuses("16 n", (x, v) -> x.fundLasts(v), NONE, NO_MINUTES);
        Twins.leavesAll("16 not in these", 260, x -> x.fundLasts(1), -2);
        Twins.leavesAll("16 not in 240", 260, x -> x.fundLasts(240), -2);
        DeadLines x = new DeadLines();
        Twins.Call zero = y -> y.fundLasts(0);
        Due.is("16 no such n, though it is 0 now", zero.on(x), NONE);
        Due.is("16 no such n, though it is 0 now", x.fundLasts(241), NONE);
        Due.is("16 it is 0 now", x.fundLasts(1), 0);
    }

    private static void flows() {
        Twins.refuses("17 e", (x, v) -> x.atOnce(v, 3), NONE, NO_EXCHANGE);
        Twins.refuses("17 q", (x, v) -> x.atOnce(3, v), NONE, NO_EXCHANGE);
        Twins.refuses("17 the same", (x, v) -> x.atOnce(v, v), NONE, 0, 1, 2, 3, 4, 5, 6, 7);
        Twins.refuses("18 e", (x, v) -> x.stops(v, 3), NONE, NO_EXCHANGE);
        Twins.refuses("18 q", (x, v) -> x.stops(3, v), NONE, NO_EXCHANGE);
        Twins.refuses("18 the same", (x, v) -> x.stops(v, v), NONE, 0, 1, 2, 3, 4, 5, 6, 7);
        Twins.leavesAll("17 asked", 260, x -> x.atOnce(0, 4), 1);
        Twins.leavesAll("18 asked", 260, x -> x.stops(7, 6), 1);
        Twins.leavesAll("17 none", 260, x -> x.atOnce(0, 7), 0);
        Twins.leavesAll("18 none", 260, x -> x.stops(7, 0), 0);
        Twins.leavesAll("19 asked", 260, x -> x.inTheMiddle(), 2);
    }

    private static void cut() {
        for (int what = 0; what < 2; what++) {
            int asked = what;
            Twins.refuses("20 n", (x, v) -> x.cut(v, 9, asked), NONE, 0, -1, 13, MIN, MAX);
            Twins.refuses("20 bound", (x, v) -> x.cut(1, v, asked), NONE, -1, 3061, MIN, MAX);
        }
        Twins.refuses("20 what", (x, v) -> x.cut(1, 9, v), NONE, NO_FLAG);
        Twins.emptiesTape("20 1, 0", 260, x -> x.cut(1, 0, 0), 0);
        Twins.emptiesTape("20 12, 3060", 260, x -> x.cut(12, 3060, 1), 4095);
    }

    private static void heir() {
        for (int what = 0; what < 2; what++) {
            int asked = what;
            Twins.refuses("21 n", (x, v) -> x.heir(v, 9, asked), NONE, 0, -1, 13, MIN, MAX);
            Twins.refuses("21 bill", (x, v) -> x.heir(1, v, asked), NONE, -1, 3061, MIN, MAX);
        }
        Twins.refuses("21 what", (x, v) -> x.heir(1, 9, v), NONE, NO_FLAG);
        Twins.emptiesTape("21 1, 0", 260, x -> x.heir(1, 0, 0), 1);
        Twins.emptiesTape("21 no way", 260, x -> x.heir(12, 3060, 0), 0);
        Twins.emptiesTape("21 none", 260, x -> x.heir(12, 3060, 1), -2);
    }

    private static void busy() {
        for (int what : new int[] {0, 1, 100, 120}) {
            Twins.refuses("22 n", (x, v) -> x.busy(v, what), NONE, 0, -1, 11, MIN, MAX);
        }
        Twins.refuses("22 what", (x, v) -> x.busy(1, v), NONE, -1, 2, 99, 121, MIN, MAX);
        Twins.emptiesTape("22 first", 260, x -> x.busy(1, 1), 'x');
        Twins.emptiesTape("22 most at once", 260, x -> x.busy(10, 0), 9);
        Twins.emptiesTape("22 not later", 260, x -> x.busy(10, 100), 9);
        Twins.readsInVain("22 of no minutes", "\1\0", x -> x.busy(1, 120), -2);
        DeadLines y = new DeadLines();
        Due.put(y, 1, 0);
        for (int what : new int[] {-1, 2, 99, 121}) {
            Due.is("22 no such one, though it has no minutes", y.busy(1, what), NONE);
            Due.is("22 the tape stays", y.count(8), 20);
        }
    }

    private static void cheapest() {
        for (int what : new int[] {0, 100}) {
            Twins.refuses("23 n", (x, v) -> x.cheapest(v, 9, what), NONE, 0, -1, 6, MIN, MIN + 1, MAX);
            Twins.refuses("23 minutes", (x, v) -> x.cheapest(1, v, what), NONE, NO_MINUTES);
        }
        Twins.refuses("23 what of one", (x, v) -> x.cheapest(1, 9, v), NONE, -1, 1, 99, 101, MIN, MAX);
        Twins.refuses("23 what of five", (x, v) -> x.cheapest(5, 9, v), NONE, -1, 5, 99, 101, MIN, MAX);
        // The tape of the twins begins with x (120 minutes).
        Twins.emptiesTape("23 more than 60", 260, x -> x.cheapest(5, 240, 4), -2);
        Twins.readsInVain("23 one", "\2\3", x -> x.cheapest(1, 1, 0), 1);
        Twins.readsInVain("23 most", "\1\1", x -> x.cheapest(1, 240, 100), 240);
        Twins.readsInVain("23 of 0", "\0\1", x -> x.cheapest(1, 240, 100), -2);
        Twins.readsInVain("23 no pence", "\1\0", x -> x.cheapest(1, 240, 100), -2);
    }

    private static void told() {
        for (int what = 0; what < 2; what++) {
            int asked = what;
            Twins.refuses("24 n", (x, v) -> x.told(v, asked), NONE, 0, 1, -1, 17, MIN, MAX);
        }
        Twins.refuses("24 what", (x, v) -> x.told(2, v), NONE, NO_FLAG);
        Twins.emptiesTape("24 not by a lower one", 260, x -> x.told(16, 1), -2);
        Twins.readsInVain("24 two", "\7\0", x -> x.told(2, 1), 1);
        Twins.readsInVain("24 sixteen", "\0".repeat(16), x -> x.told(16, 0), 15);
    }

    private static void epitaph() {
        Twins.refuses("25 k", (x, v) -> x.epitaph(v, 2, true, 0), NONE, 0, -1, 31, MIN, MAX);
        Twins.refuses("25 m", (x, v) -> x.epitaph(2, v, false, 0), NONE, 0, -1, 31, MIN, MIN + 1, MAX);
        Twins.refuses("25 what of one", (x, v) -> x.epitaph(1, 1, false, v), NONE, -1, 1, MIN, MAX);
        Twins.refuses("25 what of thirty", (x, v) -> x.epitaph(30, 30, true, v), NONE, -1, 30, MIN, MAX);
        Twins.emptiesTape("25 a fault", 260, x -> x.epitaph(30, 30, true, 29), -1000);
        Twins.readsInVain("25 one", "BA", x -> x.epitaph(1, 1, false, 0), 1);
        Twins.readsInVain("25 thirty", "B".repeat(59) + "A", x -> x.epitaph(30, 30, false, 29), 1);
    }

    private static void dialled() {
        for (int what = 0; what < 2; what++) {
            int asked = what;
            Twins.refuses("26 n", (x, v) -> x.dialled(v, asked), NONE, 0, -1, 13, MIN, MAX);
            Twins.readsInVain("26 no code fits", "7", x -> x.dialled(1, asked), -2);
            Twins.readsInVain("26 a fault", "45x", x -> x.dialled(3, asked), -1002);
        }
        Twins.refuses("26 what", (x, v) -> x.dialled(1, v), NONE, NO_FLAG);
        Twins.readsInVain("26 one too short", "4", x -> x.dialled(1, 0), -2);
        Twins.readsInVain("26 twelve", "987654000000", x -> x.dialled(12, 1), 6);
    }

    private static void plans() {
        Twins.leavesAll("27 asked", 260, x -> x.clear(), 1);
        Twins.refuses("28 k", (x, v) -> x.freeCode(v), NONE, 0, -1, 4, MIN, MAX);
        Twins.leavesAll("28 one", 260, x -> x.freeCode(1), 1);
        Twins.leavesAll("28 two", 260, x -> x.freeCode(2), 0);
        Twins.leavesAll("28 three", 260, x -> x.freeCode(3), 0);
    }

    private static void seed() {
        Twins.refuses("29", (x, v) -> Twins.number(x.seed(v)), 0, -1, 65536, MIN, MAX);
        DeadLines x = new DeadLines();
        for (int seed : new int[] {65535, 0, 1}) {
            Due.is("29 may stand", x.seed(seed), true);
            Due.is("29 stands", x.count(9), seed);
        }
    }

    private static void undo() {
        DeadLines x = Cases.talking(9);
        DeadLines y = Cases.talking(9);
        Due.is("31 none was kept", x.undo(), false);
        Due.is("31 nor the second time", x.undo(), false);
        for (int what = 0; what < 10; what++) {
            Due.is("31 nothing is changed", x.count(what), y.count(what));
        }
        for (int what = 0; what < 5; what++) {
            Due.is("31 the call stays", x.callIs(0, what), y.callIs(0, what));
        }
        Due.is("31 who rang stays", x.subscriberIs(0, 6), 1);
        Twins.alike("30, 31 what is kept again is the same", 260, Twins::undoAndKeep, 0, z -> Twins.number(z.undo()));
    }

    private static void check() {
        Twins.refuses("32 n", (x, v) -> x.check(v), -2, -1, 17, MIN, MAX);
        Twins.emptiesTape("32 none", 260, x -> x.check(0), NONE);
        Twins.emptiesTape("32 the first is not so", 260, x -> x.check(16), 0);
        Twins.leavesAll("32 none of none", 0, x -> x.check(0), NONE);
    }

    private static void count() {
        Twins.refuses("33 what", (x, v) -> x.count(v), NONE, -1, 18, 19, MIN, MIN + 9, MIN + 10, MAX);
        Twins.refuses("33 no code", (x, v) -> x.count(v), NONE, 11, 12, 13, 15, 16);
        Twins.leavesAll("33 first", 260, x -> x.count(10), 3);
        Twins.leavesAll("33 last", 260, x -> x.count(17), 6);
        Twins.leavesAll("33 tape", 260, x -> x.count(8), 260);
    }
}
