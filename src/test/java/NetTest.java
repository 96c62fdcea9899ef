import java.util.Random;

/** Trunks at their most and at none: circuits that are free, routes, how many at once, stops, the middle; kept, undone. */
public final class NetTest {
    private static final int NONE = -1;
    private static final String ALL_CUT = "a!;b!;c!;d!;e!;f!;g!;h!;i!;j!;k!;l!;m!;n!;o!;p!";
    private static final String ALL_BACK = ALL_CUT.replace('!', '?');

    private NetTest() {
    }

    public static void main(String[] args) {
        freeCircuits();
        fewerThanCallsHave();
        nineCalls();
        longestRoute();
        leastRow();
        routesByFreeCircuits();
        likeRoutesOfACall();
        atOnce();
        stops();
        flowsBesideAllCuts();
        middles();
        keptAndUndone();
        allPlacesUndone();
        notKept();
        keptLast();
        Due.end();
    }

    private static DeadLines trunks(int... rows) {
        DeadLines x = new DeadLines();
        for (int i = 0; i + 2 < rows.length; i += 3) {
            Due.is("2 laid", x.trunk(rows[i], rows[i + 1], rows[i + 2]), true);
        }
        return x;
    }

    private static void row(DeadLines x, int from, int to, int... due) {
        Due.is("15 trunks", x.route(from, to, 100), due.length - 1);
        for (int i = 0; i < 8; i++) {
            Due.is("15 place " + i + " from " + from + " to " + to, x.route(from, to, i), i < due.length ? due[i] : -4);
        }
    }

    private static void freeCircuits() {
        DeadLines x = Cases.talking(2);
        Due.is("14 all", x.circuits(1, 0, 0), 2);
        Due.is("14 one is taken", x.circuits(1, 0, 1), 1);
        Due.is("14 and of the next", x.circuits(2, 1, 1), 1);
        Due.is("14 of another none", x.circuits(0, 2, 1), 0);
        Due.law(x, "v(1=1)");
        x.minutes(1);
        Due.is("14 still", x.circuits(1, 0, 1), 1);
        x.minutes(1);
        Due.is("14 free when it ends", x.circuits(1, 0, 1), 2);
        Due.is("14 and of the next", x.circuits(1, 2, 1), 2);
    }

    private static void fewerThanCallsHave() {
        DeadLines x = Cases.talking(9);
        for (int many = 9; many >= 0; many--) {
            Due.is("2 with a call there", x.trunk(1, 0, many), true);
            Due.is("14 all", x.circuits(0, 1, 0), many);
            Due.is("14 0 at least", x.circuits(0, 1, 1), Math.max(0, many - 1));
            Due.is("2 the call stays", x.callIs(0, 4), 2);
            Due.is("15 by a circuit that is free", x.route(0, 1, 100), many > 1 ? 1 : -2);
        }
        x.minutes(1);
        Due.is("10 it is charged still", x.subscriberIs(0, 4), 3);
        Due.is("10 and goes on", x.callIs(0, 3), 8);
        Due.bill(x, "a!");
        Due.is("14 none is left to be free", x.circuits(0, 1, 1), 0);
        x.trunk(0, 1, 1);
        Due.is("14 one", x.circuits(0, 1, 1), 1);
    }

    /** Eight calls at most have circuits of one trunk; of nine one is free then. */
    private static void nineCalls() {
        DeadLines x = trunks(2, 5, 9);
        for (int s = 0; s < 16; s++) {
            x.subscriber(s, s < 8 ? 2 : 5, true);
        }
        Due.law(x, "r10(s<8);ws+8(1=1);l9(1=1)");
        Due.is("10 eight", x.minutes(1), 8);
        Due.is("14 one of nine", x.circuits(5, 2, 1), 1);
        Due.is("15 by it", x.route(2, 5, 100), 1);
        x.trunk(2, 5, 8);
        Due.is("14 none of eight", x.circuits(5, 2, 1), 0);
        Due.is("15 none", x.route(2, 5, 100), -2);
        x.trunk(2, 5, 7);
        Due.is("14 0 at least", x.circuits(5, 2, 1), 0);
        Due.is("17 calls are aside", x.atOnce(2, 5), 7);
        Due.is("18 calls are aside", x.stops(2, 5), 1);
        Due.is("19 calls are aside", x.inTheMiddle(), 2);
    }

    private static void longestRoute() {
        DeadLines x = new DeadLines();
        for (int e = 0; e < 7; e++) {
            x.trunk(e, e + 1, 1);
        }
        row(x, 0, 7, 0, 1, 2, 3, 4, 5, 6, 7);
        row(x, 7, 0, 7, 6, 5, 4, 3, 2, 1, 0);
        for (int e = 0; e < 8; e++) {
            row(x, e, e, e);
        }
        x.trunk(3, 4, 0);
        for (int what : new int[] {0, 7, 100}) {
            Due.is("15 none", x.route(0, 7, what), -2);
            Due.is("15 none to the next", x.route(3, 4, what), -2);
        }
        row(x, 3, 0, 3, 2, 1, 0);
    }

    private static void leastRow() {
        DeadLines x = trunks(0, 1, 1, 0, 2, 1, 1, 6, 1, 2, 3, 1, 6, 7, 1, 3, 7, 1);
        row(x, 0, 7, 0, 1, 6, 7);
        // The least row from its beginning on, so another one back.
        row(x, 7, 0, 7, 3, 2, 0);
        x.trunk(0, 7, 1);
        row(x, 0, 7, 0, 7);
        DeadLines y = trunks(0, 5, 1, 5, 7, 1, 0, 4, 1, 4, 7, 1, 0, 6, 1, 6, 7, 1);
        row(y, 0, 7, 0, 4, 7);
        y.trunk(4, 7, 0);
        row(y, 0, 7, 0, 5, 7);
        y.trunk(0, 5, 0);
        row(y, 0, 7, 0, 6, 7);
        // A fewer trunk goes ahead of a lesser row.
        DeadLines z = trunks(0, 1, 9, 1, 2, 9, 2, 7, 9, 0, 6, 1, 6, 7, 1);
        row(z, 0, 7, 0, 6, 7);
        // One that is near the end but not on the way must not be gone to.
        DeadLines v = trunks(0, 1, 1, 1, 2, 1, 0, 3, 1, 3, 4, 1, 4, 7, 1);
        row(v, 0, 7, 0, 3, 4, 7);
    }

    private static void routesByFreeCircuits() {
        DeadLines x = trunks(0, 7, 1, 0, 3, 1, 3, 7, 1, 0, 5, 1, 5, 6, 1, 6, 7, 1);
        for (int s = 0; s < 8; s++) {
            x.subscriber(s, s % 2 == 0 ? 0 : 7, true);
        }
        Due.law(x, "r10(s%2=0);ws+1(1=1);l9-s(1=1)");
        Due.is("10 three of four", x.minutes(1), 3);
        for (int i = 0; i < 3; i++) {
            Due.is("13 trunks", x.callIs(i, 4), i + 1);
        }
        Due.is("15 none is free", x.route(0, 7, 100), -2);
        Due.is("15 to himself, though", x.route(0, 0, 100), 0);
        Due.bill(x, "c!");
        row(x, 0, 7, 0, 3, 7);
        Due.bill(x, "a!");
        row(x, 0, 7, 0, 7);
        Due.bill(x, "f!");
        row(x, 5, 7, 5, 0, 7);
    }

    /** A call has the least of like routes, and that alone. */
    private static void likeRoutesOfACall() {
        DeadLines x = trunks(0, 2, 1, 2, 7, 1, 0, 1, 1, 1, 7, 1);
        x.subscriber(0, 0, true);
        x.subscriber(1, 7, true);
        Due.law(x, "r10(s=0);w1(1=1);l9(1=1)");
        x.minutes(1);
        Due.is("14 by 1", x.circuits(0, 1, 1) + x.circuits(1, 7, 1), 0);
        Due.is("14 not by 2", x.circuits(0, 2, 1) + x.circuits(2, 7, 1), 2);
        // A better one that comes later changes nothing of it.
        x.trunk(0, 7, 1);
        x.minutes(1);
        Due.is("13 trunks as they were", x.callIs(0, 4), 2);
        Due.is("10 charged for them", x.subscriberIs(0, 4), 3);
        Due.is("14 the new one is free", x.circuits(0, 7, 1), 1);
        // He who rings may live elsewhere, told anew only when the call has ended.
        x.subscriber(0, 5, true);
        Due.is("3 ended", x.circuits(0, 1, 1) + x.circuits(1, 7, 1), 2);
    }

    private static void atOnce() {
        DeadLines full = new DeadLines();
        for (int e = 0; e < 8; e++) {
            for (int q = 0; q < e; q++) {
                full.trunk(e, q, 9);
            }
        }
        DeadLines one = trunks(0, 7, 9);
        for (int e = 0; e < 8; e++) {
            for (int q = 0; q < 8; q++) {
                boolean same = e == q;
                Due.is("17 the most", full.atOnce(e, q), same ? NONE : 63);
                Due.is("18 the most", full.stops(e, q), same ? NONE : 7);
                boolean joined = e + q == 7 && e * q == 0;
                Due.is("17 one trunk", one.atOnce(e, q), same ? NONE : joined ? 9 : 0);
                Due.is("18 one trunk", one.stops(e, q), same ? NONE : joined ? 1 : 0);
            }
        }
        DeadLines row = new DeadLines();
        for (int e = 0; e < 7; e++) {
            row.trunk(e, e + 1, 9 - e);
        }
        for (int e = 1; e < 8; e++) {
            Due.is("17 the narrowest", row.atOnce(0, e), 10 - e);
            Due.is("17 back", row.atOnce(e, 0), 10 - e);
        }
        // Two ways that the shortest one would stop, if it were not given back.
        DeadLines x = trunks(0, 1, 1, 0, 2, 1, 1, 2, 1, 1, 3, 1, 2, 3, 1);
        Due.is("17 across", x.atOnce(0, 3), 2);
        DeadLines y = trunks(0, 1, 1, 1, 4, 1, 4, 7, 1, 0, 2, 1, 2, 3, 1, 3, 4, 1, 1, 5, 1, 5, 6, 1, 6, 7, 1);
        Due.is("17 given back", y.atOnce(0, 7), 2);
        Due.is("18 given back", y.stops(0, 7), 2);
        // Each trunk bears calls both ways, but no more than it has circuits.
        DeadLines z = trunks(0, 1, 5, 1, 2, 3, 0, 2, 1);
        Due.is("17 all of it", z.atOnce(0, 2), 4);
        Due.is("17 all of it", z.atOnce(0, 1), 6);
        z.trunk(0, 1, 0);
        Due.is("17 without it", z.atOnce(0, 1), 1);
        DeadLines busy = Cases.talking(9);
        Due.is("17 calls there are aside", busy.atOnce(0, 2), 2);
    }

    private static void stops() {
        DeadLines x = trunks(0, 1, 9, 1, 7, 9, 0, 2, 1, 2, 7, 1, 0, 3, 5);
        Due.is("18 two", x.stops(0, 7), 2);
        Due.is("18 trunks, not circuits", x.stops(0, 3), 1);
        x.trunk(3, 7, 1);
        Due.is("18 three", x.stops(0, 7), 3);
        x.trunk(0, 1, 0);
        Due.is("18 without circuits it is none", x.stops(0, 7), 2);
        Due.is("18 none is needed", x.stops(0, 4), 0);
        // The fewest are in the middle, not at the ends.
        DeadLines y = trunks(0, 1, 1, 0, 2, 1, 0, 3, 1, 1, 3, 1, 2, 3, 1, 3, 4, 9, 4, 5, 1, 4, 6, 1, 4, 7, 1, 5, 7, 1, 6, 7, 1);
        Due.is("18 one in the middle", y.stops(0, 7), 1);
        Due.is("17 nine through it", y.atOnce(0, 7), 3);
    }

    /** Of all ways to part two exchanges the one with the fewest circuits, and the one with the fewest trunks. */
    private static void flowsBesideAllCuts() {
        Random draw = new Random(18);
        for (int run = 0; run < 400; run++) {
            int[][] circuits = new int[8][8];
            DeadLines x = new DeadLines();
            int many = 4 + draw.nextInt(20);
            int most = 1 + draw.nextInt(9);
            for (int i = 0; i < many; i++) {
                int e = draw.nextInt(8);
                int q = draw.nextInt(8);
                if (e != q) {
                    int laid = draw.nextInt(most + 1);
                    circuits[e][q] = laid;
                    circuits[q][e] = laid;
                    x.trunk(e, q, laid);
                }
            }
            for (int e = 0; e < 8; e++) {
                for (int q = 0; q < 8; q++) {
                    if (e != q) {
                        Due.is("17 beside all cuts", x.atOnce(e, q), leastCut(circuits, e, q, false));
                        Due.is("18 beside all cuts", x.stops(e, q), leastCut(circuits, e, q, true));
                    }
                }
            }
        }
    }

    private static int leastCut(int[][] circuits, int e, int q, boolean trunksAlone) {
        int least = Integer.MAX_VALUE;
        for (int side = 0; side < 256; side++) {
            if ((side >> e & 1) == 1 && (side >> q & 1) == 0) {
                int sum = 0;
                for (int a = 0; a < 8; a++) {
                    for (int b = 0; b < 8; b++) {
                        boolean parted = (side >> a & 1) == 1 && (side >> b & 1) == 0;
                        sum += parted ? trunksAlone ? Math.min(1, circuits[a][b]) : circuits[a][b] : 0;
                    }
                }
                least = Math.min(least, sum);
            }
        }
        return least;
    }

    private static void middles() {
        DeadLines x = new DeadLines();
        for (int e = 7; e > 0; e--) {
            x.trunk(e, e - 1, 1);
            int due = e == 1 ? 3 : (e - 1 + 7) / 2;
            Due.is("19 a row from " + (e - 1), x.inTheMiddle(), due);
        }
        x.trunk(3, 4, 0);
        Due.is("19 of two rows of four the lowest", x.inTheMiddle(), 1);
        x.trunk(0, 1, 0);
        Due.is("19 those that come to most", x.inTheMiddle(), 5);
        DeadLines star = new DeadLines();
        for (int e = 0; e < 7; e++) {
            star.trunk(7, e, 9);
        }
        Due.is("19 the last", star.inTheMiddle(), 7);
        for (int e = 0; e < 7; e++) {
            star.trunk(7, e, 0);
        }
        Due.is("19 none has a trunk", star.inTheMiddle(), 0);
        star.trunk(6, 7, 1);
        Due.is("19 two that come to each other", star.inTheMiddle(), 6);
        star.trunk(0, 1, 1);
        Due.is("19 of like ones the lowest", star.inTheMiddle(), 0);
        DeadLines far = trunks(0, 1, 1, 2, 3, 1, 3, 4, 1);
        Due.is("19 most, though they are farther", far.inTheMiddle(), 3);
    }

    private static void keptAndUndone() {
        DeadLines x = Cases.talking(9);
        x.subscriber(3, 4, true);
        x.fund(500);
        Due.bill(x, "d+7;d^;d!");
        Due.is("30 the minute", x.keep(), 1);
        int seed = x.count(9);
        x.subscriber(0, 6, false);
        x.subscriber(3, 6, false);
        x.subscriber(9, 6, false);
        Due.bill(x, "d+99;b!;b^;F+9");
        x.minutes(5);
        x.seed(12345);
        Due.is("31 undone", x.undo(), true);
        int[] counts = {1, 500, 11, 2, 8, 0, 1};
        for (int what = 0; what < counts.length; what++) {
            Due.is("31 count " + what, x.count(what), counts[what]);
        }
        Due.is("31 X", x.count(9), seed);
        int[][] people = {{0, 1, 1, 0, 0, 1, 1, 0}, {2, 0, 1, 0, 0, 0, 0, 1}, {4, 1, 0, 1, 7, -2, 0, 0}};
        for (int what = 0; what < 8; what++) {
            Due.is("31 of 0: " + what, x.subscriberIs(0, what), people[0][what]);
            Due.is("31 of 1: " + what, x.subscriberIs(1, what), people[1][what]);
            Due.is("31 of 3: " + what, x.subscriberIs(3, what), people[2][what]);
            Due.is("31 of one not told then: " + what, x.subscriberIs(9, what), NONE);
        }
        int[] call = {0, 1, 0, 9, 2};
        for (int what = 0; what < 5; what++) {
            Due.is("31 the call " + what, x.callIs(0, what), call[what]);
        }
        Due.is("31 its circuits", x.circuits(0, 1, 1) + x.circuits(1, 2, 1), 2);
        x.minutes(9);
        Due.is("31 it ends in its time", x.subscriberIs(0, 4), 27);
    }

    /** Other calls stand at the same places when those that were kept come back. */
    private static void allPlacesUndone() {
        DeadLines x = new DeadLines();
        for (int e = 0; e < 8; e++) {
            for (int q = 0; q < e; q++) {
                x.trunk(e, q, 9);
            }
        }
        for (int s = 0; s < 16; s++) {
            x.subscriber(s, s % 8, true);
        }
        Due.law(x, "r10(s<8);w15-s(1=1);l9-s(1=1);v(s=3|s=6)");
        Due.is("10 eight", x.minutes(1), 8);
        x.keep();
        Due.is("8 all of them end", Due.bill(x, ALL_CUT), 16);
        Due.is("8 none is left", x.count(6), 0);
        Due.bill(x, ALL_BACK);
        Due.law(x, "r10(s>7);ws-7(1=1);l50(1=1)");
        Due.is("10 seven others", x.minutes(1), 7);
        Due.is("31 undone", x.undo(), true);
        allPlacesAreThere(x);
        Due.law(x, "v(1=1)");
        x.minutes(4);
        Due.is("10 some have ended", x.count(6), 5);
        Due.is("31 undone", x.undo(), true);
        allPlacesAreThere(x);
        x.minutes(9);
        Due.is("10 all have ended", x.count(6), 0);
        for (int e = 0; e < 8; e++) {
            for (int q = 0; q < e; q++) {
                Due.is("14 all are free", x.circuits(e, q, 1), 9);
            }
        }
    }

    private static void allPlacesAreThere(DeadLines x) {
        for (int i = 0; i < 8; i++) {
            int[] due = {i, 15 - i, i == 3 || i == 6 ? 15 - i : i, 9 - i, 1};
            for (int what = 0; what < 5; what++) {
                Due.is("31 place " + i, x.callIs(i, what), due[what]);
            }
        }
        for (int s = 0; s < 16; s++) {
            Due.is("31 talks", x.subscriberIs(s, 5), 15 - s);
            Due.is("31 has rung", x.subscriberIs(s, 6), s < 8 ? 1 : 0);
            Due.is("31 was rung", x.subscriberIs(s, 7), s < 8 ? 0 : 1);
        }
        for (int e = 0; e < 8; e++) {
            for (int q = 0; q < e; q++) {
                Due.is("31 circuits", x.circuits(e, q, 1), e + q == 7 ? 7 : 9);
            }
        }
    }

    /** Trunks, rates, the law, codes and the tape are not kept. */
    private static void notKept() {
        DeadLines x = Cases.talking(9);
        Due.code(x, 3, "123");
        x.keep();
        Due.code(x, 3, "45");
        Due.code(x, 4, "6");
        x.trunk(0, 1, 7);
        x.trunk(5, 6, 3);
        x.rate(20, 5);
        Due.law(x, "x(1=2);x(1=2)");
        x.feed(1, 1, 1, 1, 1);
        Due.is("31 undone", x.undo(), true);
        Due.is("31 the tape stays", x.count(8), 20);
        Due.is("31 codes stay", x.count(13) * 10 + x.count(14), 21);
        Due.is("31 trunks stay", x.circuits(0, 1, 0) * 10 + x.circuits(5, 6, 0), 73);
        Due.is("31 of them the call has one", x.circuits(0, 1, 1), 6);
        Due.is("31 the law stays", x.count(7), 2);
        Due.is("31 the rate stays", x.tried(1, 100), 45);
        x.trunk(0, 1, 0);
        x.undo();
        Due.is("31 the call comes back without circuits", x.callIs(0, 4), 2);
        Due.is("14 0 at least", x.circuits(0, 1, 1), 0);
    }

    private static void keptLast() {
        DeadLines x = Cases.people(2);
        Due.is("30 at first", x.keep(), 0);
        x.minutes(240);
        Due.is("30 then", x.keep(), 240);
        x.fund(9);
        x.minutes(1);
        for (int i = 0; i < 3; i++) {
            Due.is("31 as kept last, again and again", x.undo(), true);
            Due.is("31 the minute", x.count(0), 240);
            Due.is("31 the fund", x.count(1), 0);
            x.fund(i);
            x.minutes(3);
            Due.bill(x, "a+5;b*");
        }
        x.undo();
        Due.is("31 no arrears", x.subscriberIs(0, 4), 0);
        Due.is("31 nobody dead", x.count(3), 0);
        DeadLines none = new DeadLines();
        none.keep();
        none.subscriber(0, 0, true);
        Due.is("31 kept when there was nobody", none.undo(), true);
        Due.is("31 nobody", none.count(2), 0);
        Due.is("12 not told", none.subscriberIs(0, 0), NONE);
        Due.is("8 not told", Due.bill(none, "a_"), -7000);
    }
}
