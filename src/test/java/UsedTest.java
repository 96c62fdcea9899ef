import java.util.ArrayList;
import java.util.List;

/** What was read or asked before leaves nothing behind: an object that was used answers as a new one. */
public final class UsedTest {
    private static final String[] LAWS = {
        "x(1=1)", "x(1=1);x(1=1);x(1=1);x(1=1)", "v(1=1);x(1=2);v(1=1);x(s=1|s=2|s=3)", "w1(1=1)", "r10(1=1)",
        "r10(1=1);w0(1=1);l9(1=1)", "r10(s=0);w3-s(1=1);l5(s<9&1=1&1=1);v(d=0);x(o>2)", "l7(1=1);l8(1=1)",
        "x(s" + "+1".repeat(115) + "=0);v(1=1", "x(s" + "+1".repeat(115) + "=115)", "r10(1=1);w0(1=1);l9(1=1);x(1=1",
        "v(1=1);" + "x(1=1);".repeat(14) + "x(1=2)", "x(1=1);".repeat(16) + "x", "x(" + "1=2|".repeat(50) + "s=1)"
    };
    private static final String[] BILLS = {
        "a+5", "a-5;b+7", "F+9", "a_", "a^", "a!", "a?", "a*", "b_;b+3;a_", "F-1;F+50;b!", "a+12345;b+1;F+2;a_;b^;a?;b*",
        "a+5;b", "a_;a_;a_;a_;a_;a_", "F+7;F+7;F+7;F+7;F+7;F+7;q"
    };

    private UsedTest() {
    }

    public static void main(String[] args) {
        lawsInTurn();
        longLawsInTurn();
        billsInTurn();
        sumsInTurn();
        plansInTurn();
        Due.end();
    }

    private static List<Integer> behaviour(DeadLines x) {
        List<Integer> seen = new ArrayList<>();
        seen.add(x.count(7));
        for (int what = 0; what < 5; what++) {
            seen.add(x.tried(1, what));
            seen.add(x.tried(12, what));
        }
        for (int s = 0; s < 4; s++) {
            seen.add(x.tried(7, 100 + s));
        }
        return seen;
    }

    /** Of three laws in turn the last one without a fault stands, and nothing of the others. */
    private static void lawsInTurn() {
        for (String first : LAWS) {
            for (String second : LAWS) {
                for (String third : LAWS) {
                    DeadLines x = Cases.people(4);
                    DeadLines fresh = Cases.people(4);
                    String last = "";
                    for (String text : new String[] {first, second, third}) {
                        last = Due.law(x, text) > 0 ? text : last;
                    }
                    if (!last.isEmpty()) {
                        Due.law(fresh, last);
                    }
                    same("7 " + first + ", " + second + ", " + third, behaviour(x), behaviour(fresh));
                }
            }
        }
    }

    private static void same(String what, List<Integer> got, List<Integer> due) {
        for (int i = 0; i < due.size(); i++) {
            Due.is(what + " at " + i, got.get(i), due.get(i));
        }
    }

    private static void longLawsInTurn() {
        DeadLines x = Cases.people(4);
        for (int i = 0; i < 12; i++) {
            String text = "x(s" + "+1".repeat(114) + "=" + (114 + i % 4) + ")";
            Due.is("7 long ones in turn", Due.law(x, text), 1);
            Due.is("7 each in place of the one before", x.tried(1, 3), 1);
            Due.is("7 a long one with a fault", Due.law(x, "x(s" + "+1".repeat(115)), -1233);
        }
    }

    private static DeadLines anew(DeadLines x) {
        x.subscriber(0, 0, true);
        x.subscriber(1, 0, false);
        x.fund(3);
        return x;
    }

    private static void billsInTurn() {
        for (String first : BILLS) {
            for (String second : BILLS) {
                DeadLines x = anew(new DeadLines());
                Due.bill(x, first);
                anew(x);
                DeadLines fresh = anew(new DeadLines());
                Due.is("8 " + first + ", " + second, Due.bill(x, second), Due.bill(fresh, second));
                for (int what = 0; what < 6; what++) {
                    Due.is("8 " + first + ", " + second + ": count " + what, x.count(what), fresh.count(what));
                }
                for (int what = 0; what < 8; what++) {
                    Due.is("8 " + first + ", " + second, x.subscriberIs(0, what), fresh.subscriberIs(0, what));
                    Due.is("8 " + first + ", " + second, x.subscriberIs(1, what), fresh.subscriberIs(1, what));
                }
            }
        }
    }

    private static void add(List<Twins.Call> calls, Twins.Call call, int... bytes) {
        calls.add(x -> {
            Due.put(x, bytes);
            return call.on(x);
        });
    }

    private static void sumsInTurn() {
        List<Twins.Call> calls = new ArrayList<>();
        int[] most = new int[24];
        java.util.Arrays.fill(most, 255);
        for (int what = 0; what < 2; what++) {
            int asked = what;
            add(calls, x -> x.cut(12, 3060, asked), most);
            add(calls, x -> x.cut(2, 9, asked), 3, 4, 5, 6);
            add(calls, x -> x.cut(2, 9, asked), 3, 5, 5, 6);
            add(calls, x -> x.cut(2, 3060, asked), 3, 5, 5, 6);
            add(calls, x -> x.cut(1, 0, asked), 3, 5);
            add(calls, x -> x.cut(1, 3060, asked), 3, 5);
            add(calls, x -> x.cut(3, 7, asked), 9, 3, 9, 4, 18, 7);
            add(calls, x -> x.heir(12, 255, asked), most);
            add(calls, x -> x.heir(2, 9, asked), 4, 5);
            add(calls, x -> x.heir(2, 0, asked), 4, 5);
            add(calls, x -> x.heir(3, 8, asked), 4, 5, 4);
            add(calls, x -> x.busy(10, asked), most);
            add(calls, x -> x.busy(2, asked), 4, 5, 1, 2);
            add(calls, x -> x.busy(1, asked), 9, 5);
            add(calls, x -> x.busy(3, 100 + asked), 1, 9, 0, 1, 3, 1);
            add(calls, x -> x.busy(1, asked), 9, 0);
            add(calls, x -> x.cheapest(5, 240, asked), 1, 7, 2, 13, 3, 18, 60, 255, 7, 7);
            add(calls, x -> x.cheapest(2, 9, asked), 5, 6, 10, 12);
            add(calls, x -> x.cheapest(2, 9, 100), 61, 6, 10, 12);
            add(calls, x -> x.told(16, asked), 0, 0, 1, 0, 3, 1, 2, 4, 0, 1, 3, 5, 2, 0, 4, 6);
            add(calls, x -> x.told(3, asked), 9, 0, 1);
            add(calls, x -> x.told(3, asked), 9, 0, 2);
            add(calls, x -> x.told(4, asked), 9, 0, 0, 2);
            add(calls, x -> x.epitaph(3, 2, asked == 0, 1), 'Z', 'B', 'Z', 'C', 'D');
            add(calls, x -> x.epitaph(1, 2, asked == 0, 0), 'Y', 'A', 'Z');
            add(calls, x -> x.epitaph(1, 2, asked == 0, 0), 'Y', 'A', 'z');
            add(calls, x -> x.dialled(3, asked), '1', '2', '3');
            add(calls, x -> x.check(3), 0, asked, 1);
        }
        for (Twins.Call first : calls) {
            for (Twins.Call second : calls) {
                DeadLines x = new DeadLines();
                first.on(x);
                Due.is("20 to 26 in turn", second.on(x), second.on(new DeadLines()));
            }
        }
    }

    /** What is dialled or asked for is no code afterwards. */
    private static void plansInTurn() {
        DeadLines x = new DeadLines();
        Due.code(x, 2, "12");
        Due.is("26 dialled", Due.dialled(x, "121212121212", 0), 2);
        Due.is("27 clear still", x.clear(), 1);
        Due.is("28 free", x.freeCode(2), 0);
        Due.is("28 free again", x.freeCode(2), 0);
        Due.is("28 free", x.freeCode(1), 0);
        Due.is("26 what is free is none", Due.dialled(x, "00", 0), -2);
        Due.is("9 a longer one", Due.code(x, 3, "129999"), 6);
        Due.is("27 not clear", x.clear(), 0);
        Due.is("9 a shorter one in its place", Due.code(x, 3, "3"), 1);
        Due.is("27 clear", x.clear(), 1);
        Due.is("26 the shorter one", Due.dialled(x, "39", 1), 1);
        Due.is("26 nothing of the longer one", Due.dialled(x, "129999", 1), 4);
        Due.is("9 a fault", Due.code(x, 3, "44444x"), -1005);
        Due.is("26 the one before stays", Due.dialled(x, "3", 0), 3);
        Due.is("26 nothing of the other", Due.dialled(x, "44444", 0), -2);
        Due.is("33 its digits", x.count(13), 1);
    }
}
