/** The bounds of the terms: what stands at its most and at its least, and what a minute does there. */
public final class BoundsTest {
    private static final int NONE = -1;
    private static final int MOST = 999999;
    private static final int LAST = 99999;

    private BoundsTest() {
    }

    public static void main(String[] args) {
        newObject();
        arrearsByBill();
        fundByBill();
        chargesOfTheLiving();
        chargesOfTheDead();
        whoIsChargedAtOnce();
        billsDeeds();
        inPlaceOfTheOneBefore();
        lastMinute();
        rings();
        tenths();
        whom();
        howLong();
        firstRuleThatHolds();
        reversed();
        cutOffByLaw();
        lettersOfTime();
        lettersOfPence();
        lettersOfTheCall();
        dividedByNothing();
        asMuchAsMatters();
        machineNumbers();
        lostOnes();
        freeAtHisTurn();
        oneBehindTheOther();
        places();
        draws();
        Due.end();
    }

    private static void newObject() {
        DeadLines x = new DeadLines();
        for (int s = 0; s < 16; s++) {
            for (int what = 0; what < 8; what++) {
                Due.is("1 no subscriber", x.subscriberIs(s, what), NONE);
            }
        }
        for (int i = 0; i < 20; i++) {
            Due.is("1 no call", x.callIs(i, 0), -2);
        }
        for (int e = 0; e < 8; e++) {
            for (int q = 0; q < 8; q++) {
                Due.is("1 no circuits", x.circuits(e, q, 0), e == q ? NONE : 0);
                Due.is("1 no route", x.route(e, q, 100), e == q ? 0 : -2);
            }
            Due.is("1 no code", x.count(10 + e), NONE);
        }
        int[] due = {0, 0, 0, 0, 0, 0, 0, 0, 0, 1};
        for (int what = 0; what < due.length; what++) {
            Due.is("1 count " + what, x.count(what), due[what]);
        }
        Due.is("1 none kept", x.undo(), false);
        Due.is("1 in the middle", x.inTheMiddle(), 0);
        Due.is("10 none began", x.minutes(240), 0);
        Due.is("1 nobody draws", x.count(9), 1);
        Due.is("1 nobody is charged, the fund", x.count(1), 0);
        DeadLines y = Cases.talking(9);
        y.minutes(1);
        Due.is("1 rates of 1 and 1", y.subscriberIs(0, 4), 3);
        DeadLines z = Cases.people(1);
        z.minutes(1);
        Due.is("1 the seed is 1", z.count(9), Cases.drawn(1, 1));
    }

    /** Owing so much: at most 999999. */
    private static void owe(DeadLines x, char who, int pence) {
        StringBuilder text = new StringBuilder();
        for (int i = 0; i < pence / 99999; i++) {
            text.append(who).append("+99999;");
        }
        Due.bill(x, text.append(who).append('+').append(pence % 99999).toString());
    }

    private static void arrearsByBill() {
        int[][] rows = {
            {0, 0, 0}, {0, -1, 0}, {0, -99999, 0}, {0, 1, 1}, {5, -5, 0}, {5, -6, 0}, {5, -4, 1}, {99999, -99999, 0},
            {MOST - 1, 1, MOST}, {MOST - 1, 2, MOST}, {MOST, 0, MOST}, {MOST, 1, MOST}, {MOST, 99999, MOST},
            {MOST, -1, MOST - 1}, {MOST - 99999, 99999, MOST}, {MOST - 99998, 99999, MOST}
        };
        for (int[] row : rows) {
            DeadLines x = Cases.people(3);
            owe(x, 'b', row[0]);
            Due.is("8 owes", x.subscriberIs(1, 4), row[0]);
            Due.bill(x, row[1] < 0 ? "b" + row[1] : "b+" + row[1]);
            Due.is("8 arrears of " + row[0] + " and " + row[1], x.subscriberIs(1, 4), row[2]);
            Due.is("8 not another's", x.subscriberIs(0, 4) + x.subscriberIs(2, 4), 0);
            Due.is("8 not the fund", x.count(1), 0);
        }
        // A bill is done line by line, each within the bounds.
        DeadLines y = Cases.people(1);
        Due.bill(y, "a-9;a+5");
        Due.is("8 first less, then more", y.subscriberIs(0, 4), 5);
        owe(y, 'a', MOST);
        Due.bill(y, "a+9;a-5");
        Due.is("8 first more, then less", y.subscriberIs(0, 4), MOST - 5);
    }

    private static void fundByBill() {
        int[][] rows = {
            {0, 0, 0}, {0, -1, 0}, {0, -99999, 0}, {0, 1, 1}, {5, -5, 0}, {5, -6, 0}, {5, -4, 1},
            {MOST - 1, 1, MOST}, {MOST - 1, 2, MOST}, {MOST, 99999, MOST}, {MOST, -1, MOST - 1},
            {MOST - 99999, 99999, MOST}, {MOST - 99998, 99999, MOST}
        };
        for (int[] row : rows) {
            DeadLines x = Cases.people(16);
            x.fund(row[0]);
            Due.bill(x, row[1] < 0 ? "F" + row[1] : "F+" + row[1]);
            Due.is("8 fund of " + row[0] + " and " + row[1], x.count(1), row[2]);
            for (int s = 0; s < 16; s++) {
                Due.is("8 nobody's arrears", x.subscriberIs(s, 4), 0);
            }
        }
        DeadLines y = new DeadLines();
        Due.bill(y, "F-9;F+5");
        Due.is("8 first less, then more", y.count(1), 5);
        y.fund(MOST);
        Due.bill(y, "F+9;F-5");
        Due.is("8 first more, then less", y.count(1), MOST - 5);
    }

    private static void chargesOfTheLiving() {
        // Two trunks at 10 and the call at 7: 27 a minute.
        int[][] rows = {{0, 27}, {MOST - 28, MOST - 1}, {MOST - 27, MOST}, {MOST - 26, MOST}, {MOST, MOST}};
        for (int[] row : rows) {
            DeadLines x = Cases.talking(9);
            x.rate(10, 7);
            x.fund(50);
            owe(x, 'a', row[0]);
            Due.is("11 arrears then", x.tried(1, 100), row[1]);
            x.minutes(1);
            Due.is("10 arrears", x.subscriberIs(0, 4), row[1]);
            Due.is("10 not the other's", x.subscriberIs(1, 4), 0);
            Due.is("10 not the fund", x.count(1), 50);
        }
    }

    private static void chargesOfTheDead() {
        int[][] rows = {{0, 0}, {1, 0}, {26, 0}, {27, 0}, {28, 1}, {MOST, MOST - 27}};
        for (int[] row : rows) {
            DeadLines x = Cases.talking(9);
            x.rate(10, 7);
            x.fund(row[0]);
            Due.bill(x, "a*;a+5");
            Due.is("11 the fund is less", x.tried(1, 2), row[0] - row[1]);
            Due.is("16 behind one or not", x.fundLasts(1), row[0] == 0 ? 0 : row[1] == 0 ? 1 : -2);
            x.minutes(1);
            Due.is("10 the fund", x.count(1), row[1]);
            Due.is("10 not his arrears", x.subscriberIs(0, 4), 5);
        }
        DeadLines y = Cases.talking(99);
        Due.bill(y, "a*");
        y.fund(3 * 98);
        Due.is("16 the last of the call", y.fundLasts(240), 98);
        Due.is("16 just", y.fundLasts(98), 98);
        Due.is("16 one too few", y.fundLasts(97), -2);
        y.fund(3 * 98 - 2);
        Due.is("16 with less than a charge left", y.fundLasts(98), 98);
        y.fund(720);
        Due.is("16 all 240", y.fundLasts(240), 240);
        y.fund(721);
        Due.is("16 not in 240", y.fundLasts(240), -2);
    }

    /** One that died in his call is charged as one dead, a living one told anew not at all. */
    private static void whoIsChargedAtOnce() {
        DeadLines x = Cases.pair();
        x.fund(1000);
        Due.law(x, "r10(s=0);w1(1=1);l9(1=1);v(d=1)");
        x.minutes(2);
        Due.is("10 who was rung pays by the fund", x.count(1), 997);
        Due.is("10 no arrears of the dead", x.subscriberIs(1, 4), 0);
        Due.is("10 nor of who rang", x.subscriberIs(0, 4), 0);
        DeadLines y = Cases.talking(9);
        y.fund(1000);
        y.minutes(1);
        Due.bill(y, "a*");
        y.minutes(1);
        Due.is("8 living, then dead", y.subscriberIs(0, 4), 3);
        Due.is("8 the fund from then on", y.count(1), 997);
        Due.is("8 the call goes on", y.callIs(0, 3), 7);
        DeadLines z = Cases.talking(9);
        z.subscriber(1, 2, true);
        z.fund(0);
        Due.bill(z, "b^");
        z.minutes(5);
        Due.is("3 no call is charged", z.subscriberIs(0, 4), 0);
    }

    private static void billsDeeds() {
        for (int who = 0; who < 2; who++) {
            DeadLines x = Cases.talking(9);
            String name = who == 0 ? "a" : "b";
            Due.bill(x, name + "^");
            Due.is("8 off the hook", x.subscriberIs(who, 3), 1);
            Due.is("8 and talks", x.subscriberIs(who, 5), 1 - who);
            Due.is("8 still", x.count(6), 1);
            Due.bill(x, name + "?");
            Due.is("8 connected already", x.subscriberIs(who, 2), 1);
            Due.is("8 still talks", x.count(6), 1);
            Due.bill(x, name + "!");
            Due.is("8 cut off", x.subscriberIs(who, 2), 0);
            Due.is("8 in bits", x.count(4), 1 << who);
            Due.is("8 his call ends", x.count(6), 0);
            Due.is("8 at its place", x.callIs(0, 0), -2);
            Due.is("8 he talks with nobody", x.subscriberIs(who, 5), -2);
            Due.is("8 nor does the other", x.subscriberIs(1 - who, 5), -2);
            Due.is("8 circuits are free", x.circuits(0, 1, 1) + x.circuits(1, 2, 1), 4);
            Due.is("8 the other is free", x.count(5), 1 << 1 - who);
            Due.is("8 not charged", x.subscriberIs(0, 4), 0);
            Due.bill(x, name + "!");
            Due.is("8 cut off again", x.count(4), 1 << who);
            Due.bill(x, name + "?");
            Due.is("8 connected, off the hook still", x.count(5), 1 << 1 - who);
            Due.bill(x, name + "_");
            Due.is("8 on it", x.count(5), 3);
            Due.bill(x, name + "_;" + name + "?");
            Due.is("8 on it and connected again", x.count(5), 3);
            Due.bill(x, name + "*;" + name + "*");
            Due.is("8 dead", x.subscriberIs(who, 1), 0);
            Due.is("8 in bits", x.count(3), 2 | 1 << who);
            Due.is("8 the dead are free, too", x.count(5), 3);
            Due.bill(x, "a+1;a!;a?;a*;a^;a_;a-1");
            Due.is("8 all in one bill", x.count(5), 3);
        }
        DeadLines y = Cases.people(16);
        for (int s = 0; s < 16; s++) {
            Due.bill(y, (char) ('a' + s) + "!");
            Due.is("8 each one", y.count(4), (1 << s + 1) - 1);
            Due.bill(y, (char) ('a' + s) + "*");
            Due.is("8 each one", y.count(3), (1 << s + 1) - 1);
        }
    }

    private static void inPlaceOfTheOneBefore() {
        for (int who = 0; who < 2; who++) {
            DeadLines x = Cases.talking(9);
            x.subscriber(2, 0, true);
            x.subscriber(3, 0, true);
            Due.law(x, "r10(s=2);w3(1=1);l9(1=1)");
            x.minutes(1);
            String name = who == 0 ? "a" : "b";
            Due.bill(x, name + "+5;" + name + "^;" + name + "*;c+8");
            int seed = x.count(9);
            Due.is("3 anew", x.subscriber(who, 6, true), true);
            int[] due = {6, 1, 1, 0, 0, -2, 0, 0};
            for (int what = 0; what < due.length; what++) {
                Due.is("3 of him " + what, x.subscriberIs(who, what), due[what]);
            }
            Due.is("3 the other talks with nobody", x.subscriberIs(1 - who, 5), -2);
            Due.is("3 his ring stays", x.subscriberIs(1 - who, who == 0 ? 7 : 6), 1);
            Due.is("3 his call has ended", x.callIs(0, 0), -2);
            Due.is("3 its circuits are free", x.circuits(0, 1, 1), 2);
            Due.is("3 another call stays", x.callIs(1, 1), 3);
            Due.is("3 one call", x.count(6), 1);
            Due.is("3 others' arrears", x.subscriberIs(2, 4), 8);
            Due.is("3 X", x.count(9), seed);
            Due.is("3 the minute", x.count(0), 2);
            Due.bill(x, name + "!");
            x.subscriber(who, 0, false);
            Due.is("3 connected again", x.subscriberIs(who, 2), 1);
            Due.is("3 none is cut off", x.count(4), 0);
            Due.is("3 dead", x.subscriberIs(who, 1), 0);
        }
        DeadLines y = Cases.people(2);
        Due.law(y, "r10(s=0);w1(1=1);l1(1=1)");
        y.minutes(3);
        y.subscriber(1, 0, true);
        Due.is("3 ring 0", y.subscriberIs(1, 7), 0);
        y.minutes(1);
        Due.is("3 counted anew", y.subscriberIs(1, 7), 1);
        Due.is("3 the other's goes on", y.subscriberIs(0, 6), 4);
    }

    private static void lastMinute() {
        DeadLines x = new DeadLines();
        for (int i = 0; i < 416; i++) {
            x.minutes(240);
        }
        x.minutes(157);
        Due.is("10 two are left", x.count(0), LAST - 2);
        x.subscriber(0, 0, false);
        x.subscriber(1, 0, true);
        x.fund(50);
        Due.law(x, "r10(s=0);w1(1=1);l9(1=1);x(t=38&h=10)");
        Due.is("11 as many as can", x.tried(240, 2), 1);
        Due.is("10 one", x.minutes(1), 1);
        Due.is("10 one is left", x.count(0), LAST - 1);
        Due.is("11 the last, by x", x.tried(1, 3), 2);
        Due.law(x, "r10(s=0);w1(1=1);l9(1=1)");
        Due.is("11 the last", x.tried(1, 2), 1);
        Due.is("11 as many as can", x.tried(240, 2), 1);
        x.fund(1);
        Due.is("16 in the last", x.fundLasts(240), 1);
        x.fund(2);
        Due.is("16 as many as can", x.fundLasts(240), -2);
        Due.is("10 as many as can", x.minutes(240), 0);
        Due.is("10 the last", x.count(0), LAST);
        int seed = x.count(9);
        Due.is("10 then none goes by", x.minutes(1), 0);
        Due.is("10 nor of many", x.minutes(240), 0);
        Due.is("10 no such n even then", x.minutes(241), NONE);
        Due.is("10 it stays the last", x.count(0), LAST);
        Due.is("10 none is charged", x.count(1), 1);
        Due.is("10 none is drawn", x.count(9), seed);
        Due.is("10 so much is left of the call as before", x.callIs(0, 3), 8);
        for (int what = 0; what < 4; what++) {
            Due.is("11 none goes by", x.tried(240, what), 0);
        }
        Due.is("11 the call", x.tried(240, 4), 1);
        Due.is("16 not in these", x.fundLasts(240), -2);
        x.fund(0);
        Due.is("16 now", x.fundLasts(1), 0);
        Due.is("30 the last", x.keep(), LAST);
        Due.is("31 undone", x.undo(), true);
        Due.is("31 the last", x.count(0), LAST);
    }

    private static void rings() {
        DeadLines x = Cases.people(2);
        Due.law(x, "r10(s=0);w1(1=1);l1(1=1)");
        for (int i = 0; i < 41; i++) {
            Due.is("10 each minute one", x.minutes(240), 240);
        }
        x.minutes(157);
        Due.is("12 rung", x.subscriberIs(0, 6), 9997);
        for (int due : new int[] {9998, 9999, 9999, 9999}) {
            Due.is("10 one begins", x.minutes(1), 1);
            Due.is("12 how often he has rung", x.subscriberIs(0, 6), due);
            Due.is("12 how often he was rung", x.subscriberIs(1, 7), due);
        }
        Due.is("12 was not", x.subscriberIs(0, 7), 0);
        Due.is("12 has not", x.subscriberIs(1, 6), 0);
        x.keep();
        Due.is("10 more begin than are counted", x.minutes(240), 240);
        Due.is("12 at most", x.subscriberIs(0, 6), 9999);
        Due.is("31 undone", x.undo(), true);
        Due.is("31 at most", x.subscriberIs(1, 7), 9999);
    }

    /** Of 240 draws those below r ring, and ringing oneself is lost. */
    private static void tenths() {
        int[] below = new int[11];
        int seed = 1;
        for (int i = 0; i < 240; i++) {
            seed = Cases.drawn(seed, 1);
            for (int r = seed % 10 + 1; r <= 10; r++) {
                below[r]++;
            }
        }
        Due.is("10 each tenth tells", below[1] > 0 && below[10] == 240 && below[9] < 240, true);
        for (int r = 0; r <= 10; r++) {
            DeadLines x = Cases.people(1);
            Due.law(x, "r" + r + "(1=1);w0(1=1)");
            Due.is("10 below " + r, x.tried(240, 1), below[r]);
            Due.is("10 none began", x.tried(240, 0), 0);
        }
        String[] texts = {"r11", "r99999", "r0-1", "r0-99999", "r99999*99999", "r1/0"};
        int[] due = {240, 240, 0, 0, 240, 0};
        for (int i = 0; i < texts.length; i++) {
            DeadLines x = Cases.people(1);
            Due.law(x, texts[i] + "(1=1);w0(1=1)");
            Due.is("7 the bound of " + texts[i], x.tried(240, 1), due[i]);
        }
        DeadLines none = Cases.people(1);
        Due.law(none, "w0(1=1);l5(1=1)");
        Due.is("7 none of r: 0", none.tried(240, 1), 0);
        Due.law(none, "r10(1=2);w0(1=1);l5(1=1)");
        Due.is("7 none of r holds: 0", none.tried(240, 1), 0);
    }

    private static void whom() {
        String[] texts = {"w0", "w15", "w16", "w99999", "w0-1", "w0-99999", "w14+1", "w32768*65536", "w1/0", ""};
        int[] due = {0, 15, 15, 15, 0, 0, 15, 0, 0, 0};
        for (int i = 0; i < texts.length; i++) {
            DeadLines x = Cases.people(16);
            Due.law(x, "r10(s=7);" + (texts[i].isEmpty() ? "" : texts[i] + "(1=1);") + "l5(1=1)");
            Due.is("7 rings " + texts[i], x.minutes(1), 1);
            Due.is("7 whom " + texts[i], x.callIs(0, 1), due[i]);
        }
        DeadLines x = Cases.people(2);
        Due.law(x, "r10(s=1);w5(1=2);l5(1=1)");
        x.minutes(1);
        Due.is("7 none of w holds: 0", x.callIs(0, 1), 0);
    }

    private static void howLong() {
        String[] texts = {"l1", "l2", "l98", "l99", "l100", "l99999", "l98+1", "l99+1"};
        int[] due = {1, 2, 98, 99, 99, 99, 99, 99};
        for (int i = 0; i < texts.length; i++) {
            DeadLines x = Cases.people(2);
            Due.law(x, "r10(s=0);w1(1=1);" + texts[i] + "(1=1)");
            Due.is("10 began", x.minutes(1), 1);
            Due.is("7 so long " + texts[i], x.callIs(0, 3), due[i]);
            Due.law(x, "v(1=1)");
            if (due[i] > 1) {
                x.minutes(due[i] - 1);
                Due.is("10 the last of them", x.callIs(0, 3), 1);
            }
            Due.is("10 he is in it", x.count(5), 0);
            x.minutes(1);
            Due.is("10 at 0 it ends", x.callIs(0, 3), -2);
            Due.is("10 both are free", x.count(5), 3);
            Due.is("10 charged each minute", x.subscriberIs(0, 4), due[i]);
        }
        for (String text : new String[] {"l0(1=1)", "l0-1(1=1)", "l32768*65536(1=1)", "l5/0(1=1)", "l5(1=2)", "v(1=1)"}) {
            DeadLines x = Cases.people(2);
            Due.law(x, "r10(s=0);w1(1=1);" + text);
            Due.is("7 not at all: " + text, x.tried(9, 0), 0);
            Due.is("7 nor lost: " + text, x.tried(9, 1), 0);
            x.minutes(9);
            Due.is("7 nor counted: " + text, x.subscriberIs(0, 6) + x.subscriberIs(1, 7), 0);
            Due.is("7 free: " + text, x.count(5), 3);
        }
        // A call of one minute ends ahead of the ringing, so that both are free for it.
        DeadLines y = Cases.people(2);
        Due.law(y, "r10(s=0);w1(1=1);l1(1=1)");
        Due.is("10 five in five", y.minutes(5), 5);
        Due.is("10 four charged", y.subscriberIs(0, 4), 4);
    }

    private static void firstRuleThatHolds() {
        DeadLines x = Cases.people(3);
        Due.law(x, "l9(1=2);l8(s=1);w2(s=0);r10(s=0);l7(1=1);w1(1=1);l6(1=1);r0(1=1);l5(s=0)");
        Due.is("7 of the first that holds", x.minutes(1), 1);
        Due.is("7 w", x.callIs(0, 1), 2);
        Due.is("7 l", x.callIs(0, 3), 7);
        DeadLines y = Cases.people(3);
        Due.law(y, "r0(1=1);r10(1=1);w1(1=1);l5(1=1)");
        Due.is("7 the first holds, though it is 0", y.tried(9, 0), 0);
    }

    private static void reversed() {
        String[] texts = {"v(1=1)", "v(1=2);v(1=1)", "v(1=1);v(1=2)", "v(1=2);v(1=2)", "v(1/0=0)", "v(1/0=0);v(1=1)",
            "v(s=0)", "v(s=1)", "v(k=1)", "x(1=2)"};
        int[] due = {1, 1, 1, 0, 0, 1, 1, 0, 1, 0};
        for (int i = 0; i < texts.length; i++) {
            DeadLines x = Cases.people(2);
            Due.law(x, "r10(s=0);w1(1=1);l5(1=1);" + texts[i]);
            x.minutes(1);
            Due.is("7 who pays by " + texts[i], x.callIs(0, 2), due[i]);
            x.minutes(1);
            Due.is("10 he is charged", x.subscriberIs(due[i], 4), 1);
            Due.is("10 not the other", x.subscriberIs(1 - due[i], 4), 0);
        }
    }

    private static void cutOffByLaw() {
        DeadLines x = Cases.talking(9);
        x.subscriber(2, 0, true);
        Due.bill(x, "c!");
        Due.law(x, "x(s=1);x(s=2);x(1/0=0)");
        Due.is("11 those connected", x.tried(1, 3), 1);
        Due.is("11 only once", x.tried(240, 3), 1);
        Due.is("11 its call has ended", x.tried(1, 4), 0);
        Due.is("11 that is not lost", x.tried(1, 1), 0);
        Due.is("11 charged ahead", x.tried(1, 100), 3);
        x.minutes(1);
        Due.is("10 cut off", x.count(4), 6);
        Due.is("10 the call has ended", x.callIs(0, 0), -2);
        Due.is("10 who rang is free", x.count(5), 1);
        // Off the hook is connected, and asked.
        DeadLines y = Cases.people(2);
        Due.bill(y, "b^");
        Due.law(y, "x(1=1)");
        Due.is("10 off the hook, too", y.tried(1, 3), 2);
        // Asked then: behind the charge and the ringing of this minute, each behind the one before.
        DeadLines z = Cases.talking(9);
        Due.law(z, "x(o>2)");
        Due.is("10 by what he owes then", z.tried(1, 3), 1);
        Due.law(z, "x(o>3)");
        Due.is("10 not yet", z.tried(1, 3), 0);
        Due.is("10 a minute later", z.tried(2, 3), 1);
        DeadLines v = Cases.people(2);
        Due.law(v, "r10(s=0);w1(1=1);l5(1=1);x(s=0&t=0)");
        Due.is("10 began", v.minutes(1), 1);
        Due.is("10 and ended in the same minute", v.count(6), 0);
        Due.is("10 it was counted", v.subscriberIs(1, 7), 1);
        Due.is("10 lost: he is not free", v.tried(1, 1), 0);
        Due.is("10 not charged", v.subscriberIs(0, 4), 0);
    }

    /** Whether a C holds for the one subscriber that is asked. */
    private static void holds(DeadLines x, String text, boolean due) {
        Due.is("7 rules of " + text, Due.law(x, "x(" + text + ")"), 1);
        Due.is("7 " + text, x.tried(1, 3), due ? 1 : 0);
    }

    private static void lettersOfTime() {
        int[] minutes = {0, 1, 59, 60, 61, 119, 120, 1439, 1440, 1441, 1499, 1500, 2879, 2880};
        DeadLines x = Cases.people(1);
        for (int minute : minutes) {
            Due.law(x, "v(1=1)");
            while (x.count(0) < minute) {
                x.minutes(Math.min(240, minute - x.count(0)));
            }
            Due.is("10 the minute", x.count(0), minute);
            holds(x, "t=" + minute % 60 + "&h=" + minute / 60 % 24, true);
        }
    }

    private static void lettersOfPence() {
        int[] pence = {0, 1, 99, 100, 101, 199, 200, 9999, 10000, MOST - 99, MOST};
        for (int p : pence) {
            DeadLines x = Cases.people(1);
            x.fund(p);
            holds(x, "f=" + p / 100, true);
            owe(x, 'a', p);
            holds(x, "o/1000=" + p / 1000 + "&o%1000=" + p % 1000, true);
        }
        for (int s = 0; s < 16; s++) {
            DeadLines x = new DeadLines();
            x.subscriber(s, s / 2, s % 3 == 0);
            holds(x, "s=" + s + "&e=" + s / 2 + "&a=" + (s % 3 == 0 ? 1 : 0), true);
        }
    }

    private static void lettersOfTheCall() {
        // Told in l and v alone; elsewhere 0, also of whom 0 is, though he is dead.
        for (int rung = 0; rung < 16; rung += 5) {
            for (int dead = 0; dead < 2; dead++) {
                DeadLines x = new DeadLines();
                x.trunk(3, 4, 1);
                x.trunk(4, 5, 1);
                x.subscriber(0, 0, false);
                x.subscriber(7, 3, true);
                x.subscriber(rung, 5, dead == 0);
                String facts = "(k=" + rung + "&d=" + dead + "&n=2)";
                Due.law(x, "r10(s=7&k+d+n=0);w" + rung + "(k+d+n=0);l5" + facts + ";v" + facts + ";x(k+d+n>0)");
                Due.is("7 k, d, n", x.minutes(1), 1);
                Due.is("7 l", x.callIs(0, 3), 5);
                Due.is("7 v", x.callIs(0, 2), rung);
                Due.is("7 x", x.count(4), 0);
            }
        }
        DeadLines y = Cases.people(2);
        Due.law(y, "r10(s=0);w1(1=1);l1+n(1=1)");
        y.minutes(1);
        Due.is("7 no trunk: 0", y.callIs(0, 3), 1);
        DeadLines z = new DeadLines();
        for (int e = 0; e < 7; e++) {
            z.trunk(e, e + 1, 1);
        }
        z.subscriber(0, 7, true);
        z.subscriber(1, 0, true);
        z.rate(99, 99);
        Due.law(z, "r10(s=0);w1(1=1);ln(1=1)");
        z.minutes(1);
        Due.is("7 seven trunks", z.callIs(0, 3), 7);
        Due.is("13 seven trunks", z.callIs(0, 4), 7);
        z.minutes(1);
        Due.is("10 the dearest minute", z.subscriberIs(0, 4), 8 * 99);
        Due.is("14 all are taken", z.circuits(6, 7, 1) + z.circuits(0, 1, 1), 0);
        z.minutes(6);
        Due.is("14 and free again", z.circuits(6, 7, 1) + z.circuits(0, 1, 1), z.count(6) == 1 ? 0 : 2);
    }

    private static void dividedByNothing() {
        DeadLines x = Cases.people(1);
        for (String by : new String[] {"0", "00000", "s", "[1-1]", "[65536*65536]"}) {
            for (String sign : new String[] {"/", "%"}) {
                String e = "1" + sign + by;
                holds(x, e + "=0", false);
                holds(x, "!" + e + "=0", false);
                holds(x, "!(" + e + "=0)", false);
                holds(x, "0=" + e, false);
                holds(x, e + "=0|1=1", false);
                holds(x, "1=1|" + e + "=0", true);
                holds(x, "1=2&" + e + "=0", false);
                holds(x, "1=2&" + e + "=0|1=1", true);
                holds(x, "!(1=2&" + e + "=0)", true);
                holds(x, "!(1=1&" + e + "=0)|1=1", false);
                holds(x, "1=2&(1=1|" + e + "=0)|1=1", true);
                holds(x, "(1=2|" + e + "=0)|1=1", false);
                holds(x, "0*[" + e + "]=0", false);
                x = Cases.people(1);
            }
        }
        // The E of a rule whose C holds: 0, not that of the next one.
        DeadLines y = Cases.people(3);
        Due.law(y, "r10(s=1);w2/0+2(1=1);w2(1=1);l5(1=1)");
        y.minutes(1);
        Due.is("7 all of E is 0", y.callIs(0, 1), 0);
        DeadLines z = Cases.people(3);
        Due.law(z, "r10(s=1);w0(1/0=0);w2(1=1);l5+0*[1%0](1=1);l4(1=1)");
        Due.is("7 l of 0", z.tried(5, 0), 0);
        Due.law(z, "r10(s=1);w0(1/0=0);w2(1=1);l5(1%0=0);l4(1=1)");
        z.minutes(1);
        Due.is("7 the next w", z.callIs(0, 1), 2);
        Due.is("7 the next l", z.callIs(0, 3), 4);
    }

    /** All of parts and tests up to four, each 1, 0 or refused, asked from the left as long as it matters. */
    private static void asMuchAsMatters() {
        String[] tests = {"1=2", "1=1", "1/0=1"};
        for (int many = 2; many <= 4; many++) {
            int all = (int) Math.pow(3, many);
            for (int row = 0; row < all; row++) {
                StringBuilder and = new StringBuilder();
                StringBuilder or = new StringBuilder();
                // 0, 1, or 2 if it was refused.
                int isAnd = 1;
                int isOr = 0;
                for (int i = 0, rest = row; i < many; i++, rest /= 3) {
                    and.append(i == 0 ? "" : "&").append(tests[rest % 3]);
                    or.append(i == 0 ? "" : "|").append(tests[rest % 3]);
                    isAnd = isAnd == 1 ? rest % 3 : isAnd;
                    isOr = isOr == 0 ? rest % 3 : isOr;
                }
                within(and.toString(), isAnd);
                within(or.toString(), isOr);
            }
        }
    }

    private static void within(String text, int is) {
        DeadLines x = Cases.people(1);
        // Ahead of it another rule, so that it does not stand where the law begins.
        String head = "v(1=2);x(";
        String[] wraps = {"%", "!(%)", "(%)&1=1", "(%)&1=2", "(%)|1=1", "(%)|1=2", "1=2|(%)", "1=1&(%)", "1=1|(%)",
            "1=2&(%)", "(%)&1=1&1=1", "(%)|1=2|1=2"};
        boolean[] ifRefused = {false, false, false, false, false, false, false, false, true, false, false, false};
        boolean[] ifHolds = {true, false, true, false, true, true, true, true, true, false, true, true};
        boolean[] ifNot = {false, true, false, false, true, false, false, false, true, false, false, false};
        for (int i = 0; i < wraps.length; i++) {
            String whole = head + wraps[i].replace("%", text) + ")";
            boolean due = is == 2 ? ifRefused[i] : is == 1 ? ifHolds[i] : ifNot[i];
            Due.is("7 rules of " + whole, Due.law(x, whole), 2);
            Due.is("7 " + whole, x.tried(1, 3), due ? 1 : 0);
        }
    }

    private static void machineNumbers() {
        String least = "[32768*65536]";
        String most = "[32768*65536-1]";
        DeadLines x = Cases.people(1);
        holds(x, least + "<0", true);
        holds(x, most + ">0", true);
        holds(x, most + "+1=" + least, true);
        holds(x, least + "-1=" + most, true);
        holds(x, least + "<" + most, true);
        holds(x, least + ">" + most, false);
        holds(x, "0-" + least + "=" + least, true);
        holds(x, least + "*[0-1]=" + least, true);
        holds(x, least + "/[0-1]=" + least, true);
        holds(x, least + "%[0-1]=0", true);
        holds(x, most + "*" + most + "=1", true);
        holds(x, most + "*2=0-2", true);
        holds(x, "[0-7]/2=0-3", true);
        holds(x, "[0-7]%2=0-1", true);
        holds(x, "7/[0-2]=0-3", true);
        holds(x, "7%[0-2]=1", true);
        holds(x, "99999*99999=99999*99999", true);
        holds(x, "99999*99999/99999=99999", false);
        holds(x, "7-2-1=4", true);
        holds(x, "24/4/2=3", true);
        holds(x, "24/4*2=12", true);
        holds(x, "1+2*3=7", true);
        holds(x, "1<1", false);
        holds(x, "1>1", false);
        holds(x, "0<1", true);
        holds(x, "1=1", true);
    }

    private static int lost(DeadLines x, String law) {
        Due.law(x, law);
        Due.is("10 began beside lost", x.tried(1, 0), 0);
        return x.tried(1, 1);
    }

    private static void lostOnes() {
        String rings = "r10(s=0);w1(1=1);l5(1=1)";
        Due.is("10 himself", lost(Cases.people(2), "r10(s=0);w0(1=1);l5(1=1)"), 1);
        Due.is("10 one not told", lost(Cases.people(2), "r10(s=0);w2(1=1);l5(1=1)"), 1);
        DeadLines cut = Cases.people(2);
        Due.bill(cut, "b!");
        Due.is("10 one cut off", lost(cut, rings), 1);
        DeadLines off = Cases.people(2);
        Due.bill(off, "b^");
        Due.is("10 one off the hook", lost(off, rings), 1);
        DeadLines busy = Cases.people(3);
        Due.law(busy, "r10(s=2);w1(1=1);l5(1=1)");
        busy.minutes(1);
        Due.is("10 one in a call", lost(busy, rings), 1);
        DeadLines no = Cases.pair();
        no.trunk(0, 1, 0);
        Due.is("10 no route", lost(no, rings), 1);
        DeadLines full = Cases.pair();
        full.trunk(1, 2, 1);
        full.subscriber(2, 0, true);
        full.subscriber(3, 2, true);
        Due.law(full, "r10(s=0|s=2);ws+1(1=1);l5(1=1)");
        Due.is("10 one circuit, one call", full.minutes(1), 1);
        Due.is("10 no circuit is free", full.tried(1, 1), 1);
        Due.is("10 lost, for the lower one rings again ahead of him", full.tried(5, 1), 5);
        Due.is("10 who was lost is free", full.count(5), 12);
        // Of those lost nothing is counted, and l is not asked.
        DeadLines x = Cases.people(2);
        Due.law(x, "r10(s=0);w0(1=1);l0(1=1)");
        Due.is("10 lost ahead of l", x.tried(7, 1), 7);
        x.minutes(7);
        Due.is("10 not counted", x.subscriberIs(0, 6) + x.subscriberIs(0, 7), 0);
    }

    private static void freeAtHisTurn() {
        // 0 rings 3, so 3 draws no more; 1 rings 3, too, and is lost; 2 is cut off, and draws not.
        DeadLines x = Cases.people(4);
        Due.bill(x, "c!");
        Due.law(x, "r10(1=1);w3(1=1);l5(1=1)");
        Due.is("10 lost", x.tried(1, 1), 1);
        Due.is("10 one began", x.minutes(1), 1);
        Due.is("10 two draws", x.count(9), Cases.drawn(1, 2));
        // One whom a higher one rings has drawn already.
        DeadLines y = Cases.people(2);
        Due.law(y, "r10(s=1);w0(1=1);l5(1=1)");
        Due.is("10 one began", y.minutes(1), 1);
        Due.is("10 two draws", y.count(9), Cases.drawn(1, 2));
        y.minutes(1);
        Due.is("10 none draws in a call", y.count(9), Cases.drawn(1, 2));
    }

    /** In a minute: first the charges, then the ringing, then the cutting off; then it is one more. */
    private static void oneBehindTheOther() {
        DeadLines x = Cases.people(2);
        Due.law(x, "r10(s=0&o=t);w1(o=t);l1(o=t);v(o>t);x(o>t)");
        for (int i = 0; i < 9; i++) {
            Due.is("10 he rings by what he owes behind the charge", x.minutes(1), 1);
            Due.is("10 as much as minutes ahead of this one", x.subscriberIs(0, 4), i);
        }
        Due.is("10 nobody was cut off", x.count(4), 0);
        DeadLines y = Cases.people(2);
        Due.bill(y, "a*");
        y.fund(200);
        Due.law(y, "r10(s=0);w1(1=1);l9(1=1);x(s=1&f<2)");
        y.minutes(1);
        Due.is("10 the fund as it was", y.count(4), 0);
        y.minutes(1);
        Due.is("10 less by the charge of this minute", y.count(4), 2);
        Due.is("10 the fund", y.count(1), 199);
        // Whom 0 has rung ahead in this minute is not free for 1, whatever 0's law was.
        DeadLines z = Cases.people(3);
        Due.law(z, "r10(s<2);w2(1=1);l3-s(1=1)");
        Due.is("10 one", z.minutes(1), 1);
        Due.is("10 the lower one", z.callIs(0, 0), 0);
        Due.is("10 the higher one was lost", z.subscriberIs(1, 6), 0);
        Due.law(z, "r10(s=1);w2(1=1);l3(1=1);x(s=0&t=3)");
        Due.is("10 not while the other talks", z.minutes(2), 0);
        Due.is("10 in the minute in which it ends", z.minutes(1), 1);
        Due.is("10 charged to the end", z.subscriberIs(0, 4), 3);
        Due.is("10 then cut off", z.count(4), 1);
    }

    /** Sixteen subscribers talk in eight calls at most. */
    private static void places() {
        DeadLines x = Cases.people(16);
        Due.law(x, "r10(1=1);w15-s(1=1);l1+s(1=1)");
        Due.is("13 eight", x.minutes(1), 8);
        Due.is("33 eight", x.count(6), 8);
        Due.is("33 nobody is free", x.count(5), 0);
        for (int i = 0; i < 8; i++) {
            int[] due = {i, 15 - i, i, 1 + i, 0};
            for (int what = 0; what < 5; what++) {
                Due.is("13 place " + i, x.callIs(i, what), due[what]);
            }
            Due.is("12 talks", x.subscriberIs(i, 5), 15 - i);
            Due.is("12 talks", x.subscriberIs(15 - i, 5), i);
        }
        for (int i = 8; i < 20; i++) {
            Due.is("13 none", x.callIs(i, 0), -2);
        }
        Due.bill(x, "d!;f!");
        Due.is("33 six", x.count(6), 6);
        Due.law(x, "r10(s=10);w12(1=1);l9(1=1)");
        x.minutes(1);
        Due.is("13 the lowest free place", x.callIs(0, 0), 10);
        Due.is("13 the next is free", x.callIs(3, 0), -2);
        Due.is("13 the one behind stays", x.callIs(4, 0), 4);
        Due.is("13 free", x.callIs(5, 0), -2);
        Due.is("13 the last", x.callIs(7, 3), 7);
    }

    private static void draws() {
        for (int seed : new int[] {0, 1, 2, 32767, 32768, 65534, 65535}) {
            DeadLines x = Cases.people(3);
            x.seed(seed);
            x.minutes(1);
            Due.is("10 X", x.count(9), Cases.drawn(seed, 3));
            x.minutes(240);
            Due.is("10 X", x.count(9), Cases.drawn(seed, 3 * 241));
        }
    }
}
