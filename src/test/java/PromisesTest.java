/** For each promise of the document: ordinary inputs, the edges that it names, wrong inputs. */
public final class PromisesTest {
    private static final int MIN = Integer.MIN_VALUE;
    private static final int MAX = Integer.MAX_VALUE;
    private static final String ALWAYS_TO_1 = "r10(s=0);w1(1=1);l3(1=1)";

    private PromisesTest() {
    }

    public static void main(String[] args) {
        newObject();
        trunkAndCircuits();
        subscribers();
        fundAndRate();
        feeding();
        lawFaults();
        lawTruth();
        lawLetters();
        bills();
        codes();
        minutesGoBy();
        charges();
        triedChangesNothing();
        callsAndPlaces();
        routes();
        fundLasting();
        flows();
        middles();
        cuts();
        heirs();
        busyHours();
        tariffs();
        tellings();
        epitaphs();
        dialling();
        clearPlans();
        seeds();
        keeping();
        checks();
        counts();
        lastMinute();
        ringsHaveABound();
        Due.end();
    }

    private static void newObject() {
        DeadLines x = new DeadLines();
        Due.is("1 minute", x.count(0), 0);
        Due.is("1 fund", x.count(1), 0);
        Due.is("1 told", x.count(2), 0);
        Due.is("1 dead", x.count(3), 0);
        Due.is("1 cut off", x.count(4), 0);
        Due.is("1 free", x.count(5), 0);
        Due.is("1 calls", x.count(6), 0);
        Due.is("1 rules", x.count(7), 0);
        Due.is("1 tape", x.count(8), 0);
        Due.is("1 x", x.count(9), 1);
        for (int e = 0; e < 8; e++) {
            Due.is("1 code", x.count(10 + e), -1);
            Due.is("1 circuits", x.circuits(e, (e + 1) % 8, 0), 0);
        }
        Due.is("1 undo", x.undo(), false);
        Due.is("1 NONE", DeadLines.NONE, -1);
    }

    private static void trunkAndCircuits() {
        DeadLines x = new DeadLines();
        Due.is("2 trunk", x.trunk(2, 5, 9), true);
        Due.is("2 both ways", x.circuits(5, 2, 0), 9);
        Due.is("2 again", x.trunk(5, 2, 4), true);
        Due.is("2 in its place", x.circuits(2, 5, 0), 4);
        Due.is("2 none", x.trunk(2, 5, 0), true);
        Due.is("2 zero", x.circuits(2, 5, 0), 0);
        Due.is("2 same", x.trunk(3, 3, 1), false);
        Due.is("2 low", x.trunk(-1, 3, 1), false);
        Due.is("2 high", x.trunk(3, 8, 1), false);
        Due.is("2 too few", x.trunk(3, 4, -1), false);
        Due.is("2 too many", x.trunk(3, 4, 10), false);
        Due.is("2 refused changes nothing", x.circuits(3, 4, 0), 0);
        Due.is("14 what", x.circuits(3, 4, 2), -1);
        Due.is("14 what below", x.circuits(3, 4, -1), -1);
        Due.is("14 same", x.circuits(4, 4, 0), -1);
        Due.is("14 far", x.circuits(MAX, 4, 0), -1);
        Due.is("14 low", x.circuits(4, MIN, 1), -1);
    }

    private static void subscribers() {
        DeadLines x = talking();
        Due.is("12 exchange", x.subscriberIs(1, 0), 2);
        Due.is("12 living", x.subscriberIs(0, 1), 1);
        Due.is("12 dead", x.subscriberIs(1, 1), 0);
        Due.is("12 connected", x.subscriberIs(1, 2), 1);
        Due.is("12 on the hook", x.subscriberIs(1, 3), 0);
        Due.is("12 talks", x.subscriberIs(1, 5), 0);
        Due.is("12 has rung", x.subscriberIs(0, 6), 1);
        Due.is("12 was rung", x.subscriberIs(1, 7), 1);
        Due.is("12 what", x.subscriberIs(1, 8), -1);
        Due.is("12 what below", x.subscriberIs(1, -1), -1);
        Due.is("12 not told", x.subscriberIs(2, 0), -1);
        Due.is("12 no such", x.subscriberIs(16, 0), -1);
        Due.is("12 below", x.subscriberIs(-1, 0), -1);
        Due.is("12 far", x.subscriberIs(32, 0), -1);
        Due.bill(x, "b+77;b!;b^;a+5");
        Due.is("8 a call ends", x.count(6), 0);
        Due.is("3 in place", x.subscriber(1, 7, true), true);
        Due.is("3 exchange", x.subscriberIs(1, 0), 7);
        Due.is("3 living", x.subscriberIs(1, 1), 1);
        Due.is("3 connected", x.subscriberIs(1, 2), 1);
        Due.is("3 on the hook", x.subscriberIs(1, 3), 0);
        Due.is("3 no arrears", x.subscriberIs(1, 4), 0);
        Due.is("3 ring", x.subscriberIs(1, 7), 0);
        Due.is("3 others stay", x.subscriberIs(0, 4), 5);
        Due.is("3 no such", x.subscriber(16, 0, true), false);
        Due.is("3 below", x.subscriber(-1, 0, true), false);
        Due.is("3 exchange high", x.subscriber(0, 8, true), false);
        Due.is("3 exchange low", x.subscriber(0, -1, true), false);

        DeadLines y = talking();
        Due.is("3 talks", y.subscriberIs(0, 5), 1);
        y.subscriber(1, 2, false);
        Due.is("3 his call ends", y.count(6), 0);
        Due.is("3 the other talks with nobody", y.subscriberIs(0, 5), -2);
        Due.is("3 circuits are free", y.circuits(0, 1, 1), 2);
        Due.is("3 the other's ring stays", y.subscriberIs(0, 6), 1);
    }

    private static void fundAndRate() {
        DeadLines x = new DeadLines();
        Due.is("4 fund", x.fund(999999), true);
        Due.is("4 is", x.count(1), 999999);
        Due.is("4 too much", x.fund(1000000), false);
        Due.is("4 below", x.fund(-1), false);
        Due.is("4 stays", x.count(1), 999999);
        Due.is("4 zero", x.fund(0), true);
        Due.is("4 is zero", x.count(1), 0);
        Due.is("5 rate", x.rate(99, 99), true);
        Due.is("5 zero", x.rate(0, 0), true);
        Due.is("5 trunk high", x.rate(100, 1), false);
        Due.is("5 call high", x.rate(1, 100), false);
        Due.is("5 trunk low", x.rate(-1, 1), false);
        Due.is("5 call low", x.rate(1, -1), false);

        DeadLines y = talking();
        y.minutes(1);
        Due.is("5 at first 1 and 1", y.subscriberIs(0, 4), 3);
        y.rate(10, 7);
        y.minutes(1);
        Due.is("5 for a trunk and the call", y.subscriberIs(0, 4), 30);
        y.rate(100, 0);
        y.minutes(1);
        Due.is("5 refused stays", y.subscriberIs(0, 4), 57);
    }

    private static void feeding() {
        DeadLines x = new DeadLines();
        for (int i = 1; i <= 13; i++) {
            Due.is("6 feed", x.feed(i, i, i, i, i), 20 * i);
        }
        Due.is("6 too much", x.feed(1, 1, 1, 1, 1), -1);
        Due.is("6 stays", x.count(8), 260);
        Due.is("7 n", x.law(241), -1);
        Due.is("8 n", x.bill(121), -1);
        Due.is("9 n", x.code(0, 7), -1);
        Due.is("20 n", x.cut(13, 0, 0), -1);
        Due.is("21 n", x.heir(13, 0, 0), -1);
        Due.is("22 n", x.busy(11, 0), -1);
        Due.is("23 n", x.cheapest(6, 1, 100), -1);
        Due.is("24 n", x.told(17, 0), -1);
        Due.is("25 k", x.epitaph(31, 1, true, 0), -1);
        Due.is("25 m", x.epitaph(1, 31, true, 0), -1);
        Due.is("26 n", x.dialled(13, 0), -1);
        Due.is("32 n", x.check(17), -2);
        Due.is("6 all stays", x.count(8), 260);
        x.law(1);
        Due.is("7 empty then", x.count(8), 0);
        x.feed(0x61626364, 0, 0, 0, 0x7fffffff);
        x.subscriber(0, 0, true);
        Due.is("6 the highest byte first", x.bill(2), -1001);
        x.feed(0x612b3900, 0, 0, 0, 0);
        Due.is("6 order", x.bill(3), 1);
        Due.is("6 nine", x.subscriberIs(0, 4), 9);
        x.feed(0xff000000, 0, 0, 0, 0);
        Due.is("6 a byte has no sign", x.bill(1), -1000);
    }

    private static void lawFaults() {
        DeadLines x = new DeadLines();
        Due.is("7 no n", x.law(0), -1);
        Due.is("7 below", x.law(-1), -1);
        Due.is("7 high", x.law(241), -1);
        x.feed(0, 0, 0, 0, 0);
        Due.is("7 not so many", x.law(21), -1);
        Due.is("7 the tape stays", x.count(8), 20);
        Due.is("7 a fault", x.law(20), -1000);
        Due.is("7 rules", Due.law(x, "r5(s=0);w3(1=1)"), 2);
        Due.is("7 fault", Due.law(x, "r5(s=0);w3(1=1"), -1014);
        Due.is("7 the one before stays", x.count(7), 2);
        Due.is("7 in place", Due.law(x, "x(s=0)"), 1);
        Due.is("7 count", x.count(7), 1);
        String[] texts = {
            "q(s=0)", "r(s=0)", "rs", "r5()", "r5(s)", "r5(s=)", "r5(s==0)", "r5(s=0", "r5(s=0))", "r5(s=0);",
            "r5(s=0)w1(s=0)", "r5(s=0|)", "r5(s=0&)", "r5(!s)", "r5((s)=0)", "r5([s]=0)", "r5([s=0])", "r[5(s=0)",
            "r[](s=0)", "r5 (s=0)", "r-5(s=0)", "r5+(s=0)", "r5(S=0)", "r5(s<0=0)", "r5(s=0)|(s=0)", "v(s=0)&(s=0)",
            "rr(s=0)", "r12345(s=0)", "r123456(s=0)", "r5(s=1234567)", "v(!(!(!s=0)))", "v(!!!!!s=0)", "v(!!!!!!s=0)",
            "v(!!!!!(s=0))", "v(((((([s]=0))))))", "v(((((s=[[s]]+1)))))", "v(((((s=[s]+[s]&!s=0)))))",
            "v(!s=0&!s=0&!s=0&!s=0&!s=0&!s=0&!s=0)", "r[[[[[[[5]]]]]]](s=0)", "v(((((!(s=0))))))", "v(((((!s=[0])))))",
            "v(((((!s=0)))))", "\u00e9(s=0)", "v(s=\u00f3)", "x(k=d+n)", "v(s=0(", "v)", "v", "l5*/2(s=0)", "l5%h(t>1)"
        };
        int[] due = {
            -1000, -1001, -1002, -1003, -1004, -1005, -1005, -1006, -1007, -1008,
            -1007, -1007, -1007, -1005, -1005, 1, -1005, -1003,
            -1002, -1002, -1001, -1003, -1003, -1006, -1007, -1006,
            -1001, 1, -2006, -2010, 1, 1, -5007,
            -5007, -5007, -5009, 1,
            1, -5007, -5007, -5009,
            1, -1000, -1004, 1, -1005, -1001, -1001, -1003, 1
        };
        for (int i = 0; i < texts.length; i++) {
            Due.is("7 " + texts[i], Due.law(x, texts[i]), due[i]);
        }
        StringBuilder sixteen = new StringBuilder("v(s=0)");
        for (int i = 1; i < 16; i++) {
            sixteen.append(";x(s=0)");
        }
        Due.is("7 sixteen", Due.law(x, sixteen.toString()), 16);
        Due.is("7 a 17th", Due.law(x, sixteen + ";v"), -4112);
        Due.is("7 what is none", Due.law(x, sixteen + ";)"), -1112);
        Due.is("7 the end behind 16", Due.law(x, sixteen + ";"), -1112);
        Due.is("7 still sixteen", x.count(7), 16);
        StringBuilder longest = new StringBuilder("x(0");
        while (longest.length() < 237) {
            longest.append("+1");
        }
        Due.is("7 240 bytes", Due.law(x, longest + ">0)"), 1);
    }

    /** Whether all of a law's C is as due is told by who is cut off. */
    private static void lawTruth() {
        holds("1=1", true);
        holds("1=2", false);
        holds("1<2", true);
        holds("2<2", false);
        holds("2>1", true);
        holds("2>2", false);
        holds("!2>2", true);
        holds("!!2>2", false);
        holds("!2>2&1=2", false);
        holds("!(2>2&1=2)", true);
        holds("1=2|1=1&1=1", true);
        holds("1=1|1=2&1=2", true);
        holds("(1=1|1=2)&1=2", false);
        holds("1=2&1=1|1=2", false);
        holds("1=2|1=2|1=1", true);
        holds("1=1&1=1&1=2", false);
        holds("2+3*4=14", true);
        holds("[2+3]*4=20", true);
        holds("10-3-2=5", true);
        holds("100/7/2=7", true);
        holds("100%7*3=6", true);
        holds("100/7*7=98", true);
        holds("[0-7]/2=0-3", true);
        holds("[0-7]%4=0-3", true);
        holds("65536*65536=0", true);
        holds("65535*65537+1=0", true);
        holds("32768*65536<0", true);
        holds("[32768*65536]/[0-1]=32768*65536", true);
        holds("[32768*65536]%[0-1]=0", true);
        holds("1/0=0", false);
        holds("!1/0=0", false);
        holds("1%0=0|1=1", false);
        holds("1=1|1/0=0", true);
        holds("1=2&1/0=0", false);
        holds("1=2&1/0=0|1=1", true);
        holds("1=1&!(1=2|5%[3-3]=0)", false);
        holds("(1=1|1/0=0)&1=1", true);
        holds("0*[1/0]=0", false);
        holds("00000=0", true);
        holds("99999=99999", true);
        DeadLines x = pair();
        Due.law(x, "x(1/0=0);x(s=1);x(s=5)");
        Due.is("7 any of x", x.tried(1, 3), 1);
        Due.law(x, "v(1=1)");
        Due.is("7 without one none", x.tried(1, 3), 0);
    }

    private static void holds(String text, boolean due) {
        DeadLines x = new DeadLines();
        x.subscriber(0, 0, true);
        Due.is("7 rules of " + text, Due.law(x, "x(" + text + ")"), 1);
        Due.is("7 " + text, x.tried(1, 3), due ? 1 : 0);
    }

    private static void lawLetters() {
        DeadLines x = new DeadLines();
        x.subscriber(3, 6, true);
        x.subscriber(4, 2, false);
        x.fund(12345);
        Due.bill(x, "d+50;e+51");
        String[] both = {"f=123", "t=0", "h=0", "k=0", "d=0", "n=0"};
        for (String text : both) {
            Due.law(x, "x(" + text + ")");
            Due.is("7 " + text, x.tried(1, 3), 2);
        }
        String[] one = {"s=3", "s=4", "e=6", "e=2", "a=1", "a=0", "o=50", "o=51"};
        for (String text : one) {
            Due.law(x, "x(" + text + ")");
            Due.is("7 " + text, x.tried(1, 3), 1);
        }
        Due.law(x, "v(1=1)");
        x.minutes(240);
        x.minutes(240);
        x.minutes(125);
        Due.law(x, "x(t=5&h=10)");
        Due.is("7 t, h", x.tried(1, 3), 2);
        Due.law(x, "v(1=1)");
        for (int i = 0; i < 4; i++) {
            x.minutes(240);
        }
        Due.is("7 minute", x.count(0), 1565);
        Due.law(x, "x(t=5&h=2)");
        Due.is("7 h modulo 24", x.tried(1, 3), 2);

        DeadLines y = talkingNot();
        Due.law(y, "r10(s=0&k=0&d=0&n=0);w1(k=0&d=0&n=0);l7(k=1&d=1&n=2);v(k=1&d=1&n=2&s=0)");
        Due.is("7 k, d, n in l, v", y.minutes(1), 1);
        Due.is("7 l", y.callIs(0, 3), 7);
        Due.is("7 v", y.callIs(0, 2), 1);
        y.undo();
        Due.law(y, "r10(s=0);w1(1=1);l0-5(1=1)");
        Due.is("7 l below 0", y.minutes(1), 0);
        Due.is("10 nothing, not lost", y.tried(1, 1), 0);
        Due.law(y, "r10(s=0);w0-1(1=1)");
        Due.is("7 w below 0 is himself", y.tried(1, 1), 1);
        Due.law(y, "r1/0(s=0);r10(s=0);w1(1=1);l5(1=1)");
        Due.is("7 a refused E is 0", y.tried(9, 0), 0);
        Due.law(y, "r10(1/0=0);r99(s=0);w1(1=1);l500(1=1)");
        Due.is("7 the next rule", y.minutes(1), 1);
        Due.is("7 l at most 99", y.callIs(0, 3), 99);
        Due.law(y, "r10(s=2);w999(1=1);l1(1=1)");
        y.subscriber(2, 0, true);
        y.subscriber(15, 0, true);
        Due.is("7 w at most 15", y.minutes(1), 1);
        Due.is("7 rung", y.callIs(1, 1), 15);
    }

    private static void bills() {
        DeadLines x = pair();
        Due.is("8 no n", x.bill(0), -1);
        Due.is("8 high", x.bill(121), -1);
        Due.is("8 not so many", x.bill(1), -1);
        Due.is("8 lines", Due.bill(x, "a+12345;F+6;a-45;b*;b^"), 5);
        Due.is("8 arrears", x.subscriberIs(0, 4), 12300);
        Due.is("8 fund", x.count(1), 6);
        Due.is("8 dead", x.count(3), 2);
        Due.is("8 off the hook", x.subscriberIs(1, 3), 1);
        Due.is("8 not free", x.count(5), 1);
        String[] texts = {
            "a+1;b", "a+1;c+1", "a+1;c", "F*", "F^", "F_", "F?", "f+1", "q+1", "a", "a++1", "a+123456", "a+1;;b+1",
            "a!!", "a+1 ", "A+1", "a-", "c", "a+1;F", "a+1;F-12345", "a\u00e9", "a_;a_;a_;a_;a_;a_;a_;a_;a_;a_;a_;a_;"
                + "a_;a_;a_;a_;a_;a_;a_;a_;c", "a+9;x"
        };
        int[] due = {
            -1005, -7004, -7004, -1001, -1001, -1001, -1001, -7000, -1000, -1001, -1002, -2007, -1004,
            -1002, -1003, -1000, -1002, -7000, -1005, 2, -1001, -4060, -1004
        };
        for (int i = 0; i < texts.length; i++) {
            Due.is("8 " + texts[i], Due.bill(x, texts[i]), due[i]);
        }
        Due.is("8 nothing is done but by the good one", x.subscriberIs(0, 4), 12301);
        Due.is("8 fund at least 0", x.count(1), 0);
        StringBuilder much = new StringBuilder("F+99999");
        for (int i = 1; i < 11; i++) {
            much.append(";F+99999");
        }
        Due.bill(x, much.toString());
        Due.is("8 fund at most", x.count(1), 999999);

        DeadLines y = talking();
        Due.bill(y, "a^;b*;a*");
        Due.is("8 a call goes on", y.count(6), 1);
        Due.bill(y, "b!");
        Due.is("8 who was rung ends it, too", y.count(6), 0);
        Due.is("8 cut off", y.count(4), 2);
        Due.bill(y, "b?;a_");
        Due.is("8 free again", y.count(5), 3);
    }

    private static void codes() {
        DeadLines x = new DeadLines();
        Due.is("9 code", Due.code(x, 0, "012345"), 6);
        Due.is("9 digits", x.count(10), 6);
        Due.is("9 in place", Due.code(x, 0, "7"), 1);
        Due.is("9 one digit", x.count(10), 1);
        Due.is("9 fault", Due.code(x, 0, "12a"), -1002);
        Due.is("9 stays", Due.dialled(x, "79", 0), 0);
        Due.is("9 last", Due.code(x, 7, "70"), 2);
        Due.is("9 high", x.code(8, 1), -1);
        Due.is("9 low", x.code(-1, 1), -1);
        x.feed(0, 0, 0, 0, 0);
        Due.is("9 n high", x.code(0, 7), -1);
        Due.is("9 n low", x.code(0, 0), -1);
        Due.is("9 the tape stays", x.count(8), 20);
        Due.is("9 no digit", x.code(1, 1), -1000);
        Due.is("9 empty then", x.count(8), 0);
        Due.is("9 not so many", x.code(1, 1), -1);
    }

    private static void minutesGoBy() {
        DeadLines x = pair();
        Due.is("10 no n", x.minutes(0), -1);
        Due.is("10 below", x.minutes(-1), -1);
        Due.is("10 high", x.minutes(241), -1);
        Due.is("10 nothing went by", x.count(0), 0);
        Due.is("10 none began", x.minutes(3), 0);
        Due.is("10 minute", x.count(0), 3);
        Due.is("10 each that is free draws", x.count(9), drawn(1, 6));
        Due.bill(x, "a^");
        x.minutes(1);
        Due.is("10 off the hook draws not", x.count(9), drawn(1, 7));

        DeadLines y = talkingNot();
        Due.law(y, "r5(s=0);w1(1=1);l1(1=1)");
        int seed = 1;
        int began = 0;
        boolean talks = false;
        for (int i = 0; i < 40; i++) {
            seed = drawn(seed, 1);
            boolean rings = seed % 10 < 5;
            if (!rings) {
                seed = drawn(seed, 1);
            }
            int due = rings ? 1 : 0;
            Due.is("10 a draw below r", y.minutes(1), due);
            began += due;
            talks = rings;
        }
        Due.is("10 rung", y.subscriberIs(0, 6), began);
        Due.is("10 talks", y.count(6), talks ? 1 : 0);
        Due.is("10 x", y.count(9), seed);

        DeadLines z = talkingNot();
        Due.law(z, ALWAYS_TO_1 + ";x(s=1&o<1&a=0)");
        Due.is("10 began and was cut off", z.minutes(1), 1);
        Due.is("10 by x the call ends", z.count(6), 0);
        Due.is("10 cut off", z.count(4), 2);
        Due.is("10 lost then", z.tried(1, 1), 1);
        Due.is("10 not again", z.tried(5, 3), 0);

        DeadLines full = talkingNot();
        full.trunk(1, 2, 0);
        Due.law(full, ALWAYS_TO_1);
        Due.is("10 no route: lost", full.tried(3, 1), 3);
        Due.is("10 none began", full.minutes(3), 0);
        DeadLines same = new DeadLines();
        same.subscriber(0, 5, true);
        same.subscriber(1, 5, true);
        Due.law(same, ALWAYS_TO_1);
        Due.is("10 at one exchange", same.minutes(1), 1);
        Due.is("13 no trunk", same.callIs(0, 4), 0);
        same.minutes(3);
        Due.is("10 the call itself is charged", same.subscriberIs(0, 4), 3);
        Due.is("10 it ended and he rang again", same.subscriberIs(0, 6), 2);
        Due.is("13 left", same.callIs(0, 3), 3);
    }

    private static int drawn(int seed, int draws) {
        int x = seed;
        for (int i = 0; i < draws; i++) {
            x = (25173 * x + 13849) % 65536;
        }
        return x;
    }

    private static void charges() {
        DeadLines x = talking();
        x.fund(7);
        Due.bill(x, "a*");
        x.minutes(1);
        Due.is("10 the fund pays for the dead", x.count(1), 4);
        Due.is("10 not he", x.subscriberIs(0, 4), 0);
        x.rate(99, 99);
        x.minutes(1);
        Due.is("10 0 at least", x.count(1), 0);
        DeadLines y = talking();
        for (int i = 0; i < 11; i++) {
            Due.bill(y, "a+99999");
        }
        y.minutes(1);
        Due.is("10 999999 at most", y.subscriberIs(0, 4), 999999);
    }

    private static void triedChangesNothing() {
        DeadLines x = talking();
        x.fund(500);
        Due.bill(x, "a*");
        Due.is("11 began", x.tried(9, 0), 3);
        Due.is("11 lost", x.tried(9, 1), 0);
        Due.is("11 less", x.tried(9, 2), 27);
        Due.is("11 cut off", x.tried(9, 3), 0);
        Due.is("11 calls", x.tried(9, 4), 1);
        Due.is("11 arrears", x.tried(9, 100), 0);
        Due.is("11 arrears of another", x.tried(9, 101), 0);
        Due.is("11 not told", x.tried(9, 102), -1);
        Due.is("11 no such", x.tried(9, 116), -1);
        Due.is("11 what", x.tried(9, 5), -1);
        Due.is("11 below", x.tried(9, -1), -1);
        Due.is("11 far", x.tried(9, MIN), -1);
        Due.is("11 n", x.tried(241, 0), -1);
        Due.is("11 n below", x.tried(0, 0), -1);
        Due.is("11 minute stays", x.count(0), 1);
        Due.is("11 fund stays", x.count(1), 500);
        Due.is("11 x stays", x.count(9), drawn(1, 1));
        Due.is("11 the call stays", x.callIs(0, 3), 3);
        Due.is("11 as it comes", x.minutes(9), 3);
        Due.is("11 fund", x.count(1), 473);
    }

    private static void callsAndPlaces() {
        DeadLines x = new DeadLines();
        for (int s = 0; s < 6; s++) {
            x.subscriber(s, 0, true);
        }
        Due.law(x, "r10(s%2=0);ws+1(1=1);l1+s(1=1)");
        Due.is("13 three", x.minutes(1), 3);
        Due.law(x, "v(1=1)");
        x.minutes(1);
        Due.is("13 the first has ended", x.callIs(0, 0), -2);
        Due.is("13 the second stays", x.callIs(1, 0), 2);
        Due.law(x, "r10(s=1);w0(1=1);l5(1=1);v(1=1)");
        x.minutes(1);
        Due.is("13 the lowest free place", x.callIs(0, 0), 1);
        Due.is("13 rung", x.callIs(0, 1), 0);
        Due.is("13 pays", x.callIs(0, 2), 0);
        Due.is("13 left", x.callIs(0, 3), 5);
        Due.is("13 pays himself", x.callIs(2, 2), 4);
        Due.is("13 none", x.callIs(19, 4), -2);
        Due.is("13 no such", x.callIs(20, 0), -1);
        Due.is("13 below", x.callIs(-1, 0), -1);
        Due.is("13 what", x.callIs(19, 5), -1);
        Due.is("13 what below", x.callIs(0, -1), -1);
    }

    private static void routes() {
        DeadLines x = new DeadLines();
        x.trunk(0, 6, 1);
        x.trunk(6, 5, 1);
        x.trunk(0, 2, 2);
        x.trunk(2, 7, 2);
        x.trunk(7, 5, 2);
        Due.is("15 fewest", x.route(0, 5, 100), 2);
        Due.is("15 first", x.route(0, 5, 0), 0);
        Due.is("15 by", x.route(0, 5, 1), 6);
        Due.is("15 last", x.route(0, 5, 2), 5);
        Due.is("15 no such place", x.route(0, 5, 3), -4);
        Due.is("15 itself", x.route(4, 4, 100), 0);
        Due.is("15 itself first", x.route(4, 4, 0), 4);
        Due.is("15 itself no place", x.route(4, 4, 1), -4);
        Due.is("15 none", x.route(0, 4, 0), -2);
        Due.is("15 none of a place", x.route(0, 4, 7), -2);
        Due.is("15 what", x.route(0, 5, 8), -1);
        Due.is("15 what below", x.route(0, 5, -1), -1);
        Due.is("15 what else", x.route(0, 4, 101), -1);
        Due.is("15 no such", x.route(8, 0, 0), -1);
        Due.is("15 none such", x.route(0, -1, 0), -1);
        x.trunk(0, 1, 1);
        x.trunk(1, 5, 1);
        Due.is("15 the least row", x.route(0, 5, 1), 1);
        Due.is("15 back", x.route(5, 0, 1), 1);
        for (int s = 0; s < 8; s++) {
            x.subscriber(s, s % 2 == 0 ? 0 : 5, true);
        }
        Due.law(x, "r10(s%2=0);ws+1(1=1);l9(1=1)");
        Due.is("15 as many as can", x.minutes(1), 4);
        Due.is("13 trunks", x.callIs(0, 4), 2);
        Due.is("13 trunks of the second", x.callIs(1, 4), 2);
        Due.is("13 trunks of the third", x.callIs(2, 4), 3);
        Due.is("15 none is free", x.route(0, 5, 100), -2);
        Due.is("14 none is free", x.circuits(2, 7, 1), 0);
        Due.is("14 all", x.circuits(2, 7, 0), 2);
        x.trunk(2, 7, 1);
        Due.is("14 calls there are stay", x.circuits(2, 7, 1), 0);
        Due.is("2 calls stay", x.count(6), 4);
        Due.bill(x, "e!");
        Due.is("14 still one too many", x.circuits(2, 7, 1), 0);
        Due.bill(x, "h!");
        Due.is("14 one", x.circuits(7, 2, 1), 1);
        Due.is("15 there", x.route(0, 5, 2), 7);
        Due.is("17 calls aside", x.atOnce(0, 5), 3);
    }

    private static void fundLasting() {
        DeadLines x = talking();
        Due.is("16 now", x.fundLasts(1), 0);
        x.fund(30);
        Due.is("16 not by the living", x.fundLasts(240), -2);
        Due.bill(x, "a*");
        Due.is("16 ten", x.fundLasts(240), 10);
        Due.is("16 just", x.fundLasts(10), 10);
        Due.is("16 not in these", x.fundLasts(9), -2);
        Due.is("16 no n", x.fundLasts(0), -1);
        Due.is("16 high", x.fundLasts(241), -1);
        Due.is("16 nothing is changed", x.count(1), 30);
    }

    private static void flows() {
        DeadLines x = new DeadLines();
        Due.is("17 none", x.atOnce(0, 1), 0);
        Due.is("18 none", x.stops(0, 1), 0);
        for (int e = 0; e < 8; e++) {
            for (int q = 0; q < e; q++) {
                x.trunk(e, q, 9);
            }
        }
        Due.is("17 all", x.atOnce(0, 7), 63);
        Due.is("18 all", x.stops(0, 7), 7);
        DeadLines y = new DeadLines();
        y.trunk(0, 1, 3);
        y.trunk(0, 2, 2);
        y.trunk(1, 2, 5);
        y.trunk(1, 3, 2);
        y.trunk(2, 3, 3);
        Due.is("17 by a way across", y.atOnce(0, 3), 5);
        Due.is("17 back", y.atOnce(3, 0), 5);
        Due.is("18 two", y.stops(0, 3), 2);
        y.trunk(3, 4, 1);
        Due.is("17 narrow", y.atOnce(0, 4), 1);
        Due.is("18 one", y.stops(0, 4), 1);
        DeadLines z = new DeadLines();
        int[][] ways = {{0, 1}, {1, 2}, {2, 3}, {3, 7}, {0, 5}, {5, 6}, {6, 4}, {4, 7}, {1, 4}};
        for (int[] way : ways) {
            z.trunk(way[0], way[1], 2);
        }
        Due.is("17 the shortest way stops both others", z.atOnce(0, 7), 4);
        Due.is("18 the shortest way stops both others", z.stops(0, 7), 2);
        Due.is("17 same", y.atOnce(1, 1), -1);
        Due.is("17 no such", y.atOnce(1, 8), -1);
        Due.is("18 same", y.stops(1, 1), -1);
        Due.is("18 no such", y.stops(-1, 1), -1);
    }

    private static void middles() {
        DeadLines x = new DeadLines();
        Due.is("19 none", x.inTheMiddle(), 0);
        x.trunk(3, 5, 1);
        Due.is("19 the lowest", x.inTheMiddle(), 3);
        x.trunk(5, 7, 1);
        Due.is("19 fewest", x.inTheMiddle(), 5);
        x.trunk(0, 1, 9);
        Due.is("19 of those that come to most", x.inTheMiddle(), 5);
        x.trunk(7, 2, 1);
        Due.is("19 of like ones", x.inTheMiddle(), 5);
        x.trunk(5, 7, 0);
        Due.is("19 with circuits", x.inTheMiddle(), 0);
    }

    private static void cuts() {
        DeadLines x = new DeadLines();
        int[] all = new int[24];
        java.util.Arrays.fill(all, 255);
        Due.put(x, all);
        Due.is("20 all", x.cut(12, 3060, 0), 3060);
        Due.put(x, all);
        Due.is("20 who", x.cut(12, 3060, 1), 4095);
        Due.put(x, all);
        Due.is("20 all but one, the least", x.cut(12, 3059, 1), 2047);
        Due.put(x, 5, 3, 0, 0, 5, 3);
        Due.is("20 of like ones the least", x.cut(3, 3, 1), 1);
        Due.put(x, 5, 0, 6, 1);
        Due.is("20 no trouble", x.cut(2, 0, 0), 5);
        Due.put(x, 0, 0, 0, 0);
        Due.is("20 nobody", x.cut(2, 9, 1), 0);
        Due.is("20 empty then", x.count(8), 0);
        Due.put(x, 1, 1);
        Due.is("20 no n", x.cut(0, 0, 0), -1);
        Due.is("20 n", x.cut(13, 0, 0), -1);
        Due.is("20 bound", x.cut(1, 3061, 0), -1);
        Due.is("20 bound below", x.cut(1, -1, 0), -1);
        Due.is("20 what", x.cut(1, 0, 2), -1);
        Due.is("20 not so many", x.cut(11, 0, 0), -1);
        Due.is("20 the tape stays", x.count(8), 20);
    }

    private static void heirs() {
        DeadLines x = new DeadLines();
        Due.put(x, 1, 2, 3, 4);
        Due.is("21 ways", x.heir(4, 5, 0), 2);
        Due.put(x, 1, 2, 3, 4);
        Due.is("21 of like ones the least bits", x.heir(4, 5, 1), 6);
        Due.put(x, 1, 4, 5);
        Due.is("21 the fewest", x.heir(3, 5, 1), 4);
        Due.put(x, 0, 0, 0);
        Due.is("21 nothing in eight ways", x.heir(3, 0, 0), 8);
        Due.put(x, 0, 0, 0);
        Due.is("21 none of them", x.heir(3, 0, 1), 0);
        Due.put(x, 255, 255, 255, 255, 255, 255, 255, 255, 255, 255, 255, 255);
        Due.is("21 all", x.heir(12, 3060, 1), 4095);
        Due.put(x, 255, 255, 255, 255, 255, 255, 255, 255, 255, 255, 255, 255);
        Due.is("21 half", x.heir(12, 1530, 0), 924);
        Due.put(x, 7);
        Due.is("21 none", x.heir(1, 8, 1), -2);
        Due.put(x, 7);
        Due.is("21 no way", x.heir(1, 8, 0), 0);
        Due.put(x, 7);
        Due.is("21 n", x.heir(0, 8, 1), -1);
        Due.is("21 n high", x.heir(13, 8, 1), -1);
        Due.is("21 bill", x.heir(1, 3061, 1), -1);
        Due.is("21 bill below", x.heir(1, -1, 1), -1);
        Due.is("21 what", x.heir(1, 8, 2), -1);
        Due.is("21 the tape stays", x.count(8), 20);
        x.law(1);
        Due.is("21 not so many", x.heir(1, 8, 1), -1);
    }

    private static void busyHours() {
        DeadLines x = new DeadLines();
        Due.put(x, 5, 2, 0, 2, 5, 1, 0, 2);
        Due.is("22 at once", x.busy(4, 0), 2);
        Due.put(x, 5, 2, 0, 2, 5, 1, 0, 2);
        Due.is("22 first", x.busy(4, 1), 0);
        Due.put(x, 0, 5, 5, 5);
        Due.is("22 one behind the other", x.busy(2, 0), 1);
        Due.put(x, 255, 255, 0, 255, 1, 255);
        Due.is("22 over the last minute", x.busy(3, 0), 2);
        Due.put(x, 255, 255, 0, 255, 1, 255);
        Due.is("22 when", x.busy(3, 1), 1);
        Due.put(x, 3, 10, 0, 4, 0, 1);
        Due.is("22 as told", x.busy(3, 104), 1);
        Due.put(x, 3, 10, 0, 1, 0, 4);
        Due.is("22 as told otherwise", x.busy(3, 101), 2);
        Due.put(x, 3, 10, 0, 4, 0, 1);
        Due.is("22 later by 4 at least", x.busy(3, 103), 2);
        Due.put(x, 0, 20, 0, 1);
        Due.is("22 twenty", x.busy(2, 120), 1);
        Due.put(x, 0, 21, 0, 1);
        Due.is("22 more than twenty", x.busy(2, 120), 2);
        Due.put(x, 0, 1, 0, 0);
        Due.is("22 of no minutes", x.busy(2, 120), -2);
        Due.is("22 empty then", x.count(8), 0);
        Due.put(x, 0, 1);
        Due.is("22 what", x.busy(1, 121), -1);
        Due.is("22 what low", x.busy(1, 2), -1);
        Due.is("22 what between", x.busy(1, 99), -1);
        Due.is("22 what below", x.busy(1, -1), -1);
        Due.is("22 n", x.busy(11, 0), -1);
        Due.is("22 n low", x.busy(0, 0), -1);
        Due.is("22 the tape stays", x.count(8), 20);
        x.law(1);
        Due.is("22 not so many", x.busy(1, 0), -1);
    }

    private static void tariffs() {
        DeadLines x = new DeadLines();
        Due.put(x, 60, 255, 1, 5);
        Due.is("23 pence", x.cheapest(2, 240, 100), 1020);
        Due.put(x, 5, 10, 10, 20);
        Due.is("23 the most of the first", x.cheapest(2, 20, 0), 4);
        Due.put(x, 5, 10, 10, 20);
        Due.is("23 none of the second", x.cheapest(2, 20, 1), 0);
        Due.put(x, 3, 7, 10, 20, 5, 10);
        Due.is("23 of the second then", x.cheapest(3, 20, 1), 2);
        Due.put(x, 3, 7, 10, 20, 5, 10);
        Due.is("23 of the third none", x.cheapest(3, 20, 2), 0);
        Due.put(x, 60, 1);
        Due.is("23 more than asked", x.cheapest(1, 1, 0), 1);
        Due.put(x, 1, 255);
        Due.is("23 most", x.cheapest(1, 240, 100), 61200);
        Due.put(x, 61, 1);
        Due.is("23 too long", x.cheapest(1, 1, 0), -2);
        Due.put(x, 1, 1, 0, 1);
        Due.is("23 of 0 minutes", x.cheapest(2, 1, 0), -2);
        Due.put(x, 1, 1, 1, 0);
        Due.is("23 of no pence", x.cheapest(2, 1, 0), -2);
        Due.is("23 empty then", x.count(8), 0);
        Due.put(x, 1, 1);
        Due.is("23 n", x.cheapest(0, 1, 100), -1);
        Due.is("23 n high", x.cheapest(6, 1, 100), -1);
        Due.is("23 n far", x.cheapest(MIN, 1, 0), -1);
        Due.is("23 minutes", x.cheapest(1, 0, 100), -1);
        Due.is("23 minutes high", x.cheapest(1, 241, 100), -1);
        Due.is("23 what", x.cheapest(1, 1, 1), -1);
        Due.is("23 what below", x.cheapest(1, 1, -1), -1);
        Due.is("23 the tape stays", x.count(8), 20);
        x.law(1);
        Due.is("23 not so many", x.cheapest(1, 1, 0), -1);
    }

    private static void tellings() {
        DeadLines x = new DeadLines();
        Due.put(x, 200, 0);
        Due.is("24 two", x.told(2, 0), 1);
        Due.put(x, 200, 0);
        Due.is("24 the other", x.told(2, 1), 1);
        Due.put(x, 0, 0, 0, 0, 3, 4);
        Due.is("24 minutes", x.told(6, 0), 3);
        Due.put(x, 0, 0, 0, 0, 3, 4);
        Due.is("24 first the one whose own take longest", x.told(6, 1), 3);
        Due.put(x, 0, 0, 0, 1, 2);
        Due.is("24 the lowest", x.told(5, 1), 1);
        Due.put(x, 0, 0, 0, 1, 2);
        Due.is("24 three", x.told(5, 0), 3);
        Due.put(x, 0, 0, 1, 2, 3, 4, 5, 6, 7, 8, 9, 10, 11, 12, 13, 14);
        Due.is("24 a row", x.told(16, 0), 15);
        Due.put(x, 0, 0, 0, 0, 0, 0, 0, 0, 0, 0, 0, 0, 0, 0, 0, 0);
        Due.is("24 a star", x.told(16, 0), 15);
        Due.put(x, 0, 0, 1, 0, 3, 1, 2, 4, 0, 1, 3, 5, 2, 0, 4, 6);
        Due.is("24 a tree", x.told(16, 0), 5);
        Due.put(x, 0, 0, 2);
        Due.is("24 by himself", x.told(3, 0), -2);
        Due.put(x, 0, 255);
        Due.is("24 by a higher one", x.told(2, 0), -2);
        Due.is("24 empty then", x.count(8), 0);
        Due.put(x, 0, 0);
        Due.is("24 n", x.told(1, 0), -1);
        Due.is("24 n high", x.told(17, 0), -1);
        Due.is("24 what", x.told(2, 2), -1);
        Due.is("24 what below", x.told(2, -1), -1);
        Due.is("24 the tape stays", x.count(8), 20);
        x.law(1);
        Due.is("24 not so many", x.told(2, 0), -1);
    }

    private static void epitaphs() {
        DeadLines x = new DeadLines();
        String plain = "ABCDEFGHIJKLMNOPQRSTUVWXYZ";
        String laid = "RESTINPACBDFGHJKLMOQUVWXYZ";
        for (int i = 0; i < 26; i++) {
            int cipher = laid.charAt(i) - 'A';
            Due.is("25 ciphered", Due.epitaph(x, "RESTINPEACE", plain, false, i), cipher);
            Due.is("25 read back", Due.epitaph(x, "RESTINPEACE", laid, true, i), i);
        }
        String longest = "ZZZZZZZZZZYYYYYYYYYYXXXXXXXXXX";
        Due.is("25 thirty", Due.epitaph(x, longest, longest, false, 29), "ZYXABCDEFGHIJKLMNOPQRSTUVW".charAt(23) - 'A');
        Due.is("25 thirty back", Due.epitaph(x, longest, longest, true, 0), 0);
        Due.is("25 a fault of the key", Due.epitaph(x, "Aa", "b", true, 0), -1001);
        Due.is("25 a fault of the text", Due.epitaph(x, "AA", "B[", true, 0), -1003);
        Due.is("25 below A", Due.epitaph(x, "@", "B", true, 0), -1000);
        Due.is("25 empty then", x.count(8), 0);
        Due.put(x, "AB");
        Due.is("25 k", x.epitaph(0, 1, true, 0), -1);
        Due.is("25 k high", x.epitaph(31, 1, true, 0), -1);
        Due.is("25 m", x.epitaph(1, 0, true, 0), -1);
        Due.is("25 m high", x.epitaph(1, 31, true, 0), -1);
        Due.is("25 m far", x.epitaph(1, MIN, true, 0), -1);
        Due.is("25 what", x.epitaph(1, 1, true, 1), -1);
        Due.is("25 what below", x.epitaph(1, 1, true, -1), -1);
        Due.is("25 not so many", x.epitaph(11, 10, true, 0), -1);
        Due.is("25 the tape stays", x.count(8), 20);
    }

    private static void dialling() {
        DeadLines x = new DeadLines();
        Due.is("26 no code", Due.dialled(x, "1", 0), -2);
        Due.code(x, 5, "01");
        Due.code(x, 3, "0123");
        Due.code(x, 2, "01");
        Due.code(x, 6, "9");
        Due.is("26 the lowest of like ones", Due.dialled(x, "01299", 0), 2);
        Due.is("26 left", Due.dialled(x, "01299", 1), 3);
        Due.is("26 the longest", Due.dialled(x, "012399999999", 0), 3);
        Due.is("26 digits left", Due.dialled(x, "012399999999", 1), 8);
        Due.is("26 nothing left", Due.dialled(x, "9", 1), 0);
        Due.is("26 too short", Due.dialled(x, "0", 0), -2);
        Due.is("26 none fits", Due.dialled(x, "11", 1), -2);
        Due.is("26 fault", Due.dialled(x, "01a", 0), -1002);
        Due.is("26 fault ahead of none", Due.dialled(x, "5;", 0), -1001);
        Due.put(x, "9");
        Due.is("26 n", x.dialled(0, 0), -1);
        Due.is("26 n high", x.dialled(13, 0), -1);
        Due.is("26 what", x.dialled(1, 2), -1);
        Due.is("26 what below", x.dialled(1, -1), -1);
        Due.is("26 the tape stays", x.count(8), 20);
        x.law(1);
        Due.is("26 not so many", x.dialled(1, 0), -1);
    }

    private static void clearPlans() {
        DeadLines x = new DeadLines();
        Due.is("27 none", x.clear(), 1);
        Due.is("28 one digit", x.freeCode(1), 0);
        Due.is("28 n", x.freeCode(0), -1);
        Due.is("28 n high", x.freeCode(4), -1);
        Due.code(x, 0, "0");
        Due.code(x, 1, "12");
        Due.code(x, 2, "100");
        Due.is("27 clear", x.clear(), 1);
        Due.is("28 of one", x.freeCode(1), 2);
        Due.is("28 of two", x.freeCode(2), 11);
        Due.is("28 of three", x.freeCode(3), 101);
        Due.is("26 what was asked is no code", Due.dialled(x, "101", 0), -2);
        Due.is("27 still clear", x.clear(), 1);
        Due.code(x, 7, "1");
        Due.is("27 not clear", x.clear(), 0);
        Due.is("28 not clear", x.freeCode(3), -2);
        Due.is("28 no such k first", x.freeCode(4), -1);
        Due.code(x, 7, "12");
        Due.is("27 like ones", x.clear(), 0);
        Due.code(x, 7, "000001");
        Due.is("27 begins with the first", x.clear(), 0);
    }

    private static void seeds() {
        DeadLines x = pair();
        Due.is("29 seed", x.seed(65535), true);
        Due.is("29 x", x.count(9), 65535);
        x.minutes(1);
        Due.is("29 draws", x.count(9), drawn(drawn(65535, 1), 1));
        Due.is("29 zero", x.seed(0), true);
        Due.is("29 high", x.seed(65536), false);
        Due.is("29 below", x.seed(-1), false);
        Due.is("29 stays", x.count(9), 0);
    }

    private static void keeping() {
        DeadLines x = talking();
        x.fund(9);
        Due.code(x, 0, "55");
        Due.is("30 keep", x.keep(), 1);
        int seed = x.count(9);
        Due.bill(x, "a+3;a*;F+4;b!;b^");
        x.subscriber(5, 5, true);
        x.minutes(7);
        x.seed(77);
        Due.code(x, 0, "5");
        x.trunk(6, 7, 3);
        Due.law(x, "x(1=2)");
        x.feed(1, 2, 3, 4, 5);
        Due.is("31 undo", x.undo(), true);
        Due.is("31 minute", x.count(0), 1);
        Due.is("31 fund", x.count(1), 9);
        Due.is("31 told", x.count(2), 3);
        Due.is("31 dead", x.count(3), 2);
        Due.is("31 cut off", x.count(4), 0);
        Due.is("31 calls", x.count(6), 1);
        Due.is("31 x", x.count(9), seed);
        Due.is("31 ring", x.subscriberIs(0, 6), 1);
        Due.is("31 hook", x.subscriberIs(1, 3), 0);
        Due.is("31 arrears", x.subscriberIs(0, 4), 0);
        Due.is("31 talks", x.subscriberIs(0, 5), 1);
        Due.is("31 its circuits", x.circuits(0, 1, 1), 1);
        Due.is("31 not the law", x.count(7), 1);
        Due.is("31 not the codes", x.count(10), 1);
        Due.is("31 not the trunks", x.circuits(6, 7, 0), 3);
        Due.is("31 not the tape", x.count(8), 20);
        x.minutes(1);
        Due.is("31 again", x.undo(), true);
        Due.is("31 as kept last", x.count(0), 1);
        x.minutes(4);
        Due.is("30 kept anew", x.keep(), 5);
        x.minutes(1);
        x.undo();
        Due.is("31 the last", x.count(0), 5);
    }

    private static void checks() {
        DeadLines x = pair();
        x.subscriber(15, 0, true);
        Due.bill(x, "a+1000;b+255;p+256");
        Due.put(x, 1000 % 256, 255, 0, 0, 0, 0, 0, 0, 0, 0, 0, 0, 0, 0, 0, 0);
        Due.is("32 right", x.check(16), -1);
        Due.is("32 empty then", x.count(8), 0);
        Due.put(x, 1000 % 256, 254, 9);
        Due.is("32 the first", x.check(3), 1);
        Due.put(x, 1000 % 256, 255, 9);
        Due.is("32 not told", x.check(3), 2);
        Due.put(x, 9);
        Due.is("32 none is asked", x.check(0), -1);
        Due.is("32 empty, too", x.count(8), 0);
        Due.is("32 none on the tape", x.check(0), -1);
        Due.is("32 not so many", x.check(1), -2);
        Due.put(x, 9);
        Due.is("32 n", x.check(17), -2);
        Due.is("32 n below", x.check(-1), -2);
        Due.is("32 the tape stays", x.count(8), 20);
    }

    private static void counts() {
        DeadLines x = talking();
        x.subscriber(15, 7, false);
        x.subscriber(9, 7, true);
        Due.bill(x, "j!");
        Due.is("33 told", x.count(2), 1 | 2 | 1 << 9 | 1 << 15);
        Due.is("33 dead", x.count(3), 2 | 1 << 15);
        Due.is("33 cut off", x.count(4), 1 << 9);
        Due.is("33 free", x.count(5), 1 << 15);
        Due.is("33 calls", x.count(6), 1);
        Due.is("33 rules", x.count(7), 3);
        Due.code(x, 7, "123");
        Due.is("33 a code", x.count(17), 3);
        Due.is("33 no code", x.count(16), -1);
        Due.is("33 others", x.count(18), -1);
        Due.is("33 below", x.count(-1), -1);
        Due.is("33 far", x.count(MIN), -1);
        Due.is("33 as far", x.count(MAX), -1);
    }

    private static void lastMinute() {
        DeadLines x = new DeadLines();
        for (int i = 0; i < 416; i++) {
            x.minutes(240);
        }
        Due.is("10 near the last", x.count(0), 99840);
        x.subscriber(0, 0, false);
        x.subscriber(1, 0, true);
        Due.law(x, "r10(s=0);w1(1=1);l1(1=1)");
        x.fund(999999);
        Due.is("11 as many as can", x.tried(240, 0), 159);
        Due.is("10 as many as can", x.minutes(240), 159);
        Due.is("10 the last", x.count(0), 99999);
        Due.is("10 none goes by", x.minutes(240), 0);
        Due.is("11 none goes by", x.tried(1, 2), 0);
        x.fund(1);
        Due.is("16 none goes by", x.fundLasts(240), -2);
        x.fund(0);
        Due.is("16 now", x.fundLasts(240), 0);
        Due.is("30 keep", x.keep(), 99999);
    }

    private static void ringsHaveABound() {
        DeadLines x = new DeadLines();
        x.subscriber(0, 0, true);
        x.subscriber(1, 0, true);
        Due.law(x, "r10(s=0);w1(1=1);l1(1=1)");
        for (int i = 0; i < 42; i++) {
            x.minutes(240);
        }
        Due.is("12 has rung at most", x.subscriberIs(0, 6), 9999);
        Due.is("12 was rung at most", x.subscriberIs(1, 7), 9999);
    }

    private static DeadLines pair() {
        DeadLines x = new DeadLines();
        x.subscriber(0, 0, true);
        x.subscriber(1, 2, true);
        return x;
    }

    /** Two trunks of two circuits between a living one and a dead one; kept. */
    private static DeadLines talkingNot() {
        DeadLines x = new DeadLines();
        x.trunk(0, 1, 2);
        x.trunk(1, 2, 2);
        x.subscriber(0, 0, true);
        x.subscriber(1, 2, false);
        x.keep();
        return x;
    }

    /** The living one has rung the dead one and pays; a minute has gone by. */
    private static DeadLines talking() {
        DeadLines x = talkingNot();
        Due.law(x, ALWAYS_TO_1);
        Due.is("10 began", x.minutes(1), 1);
        return x;
    }
}
