import java.util.Map;
import java.util.TreeMap;
import java.util.TreeSet;

/** Each call that is done changes what the document says of it, and nothing else. */
public final class OnlyTest {
    private OnlyTest() {
    }

    public static void main(String[] args) {
        changes("2 trunk", x -> Twins.number(x.trunk(0, 3, 5)), 1, "circuits 3 0 all", "circuits 3 0 free");
        changes("2 trunk with calls", x -> Twins.number(x.trunk(1, 0, 1)), 1, "circuits 1 0 all", "circuits 1 0 free");
        changes("3 a new one", x -> Twins.number(x.subscriber(8, 0, true)), 1, "count 2", "count 5", "8 at", "8 living",
            "8 connected", "8 hook", "8 arrears", "8 talks", "8 has rung", "8 was rung");
        changes("3 one in place of another", x -> Twins.number(x.subscriber(9, 6, true)), 1, "9 at", "9 arrears");
        changes("4 fund", x -> Twins.number(x.fund(5)), 1, "count 1");
        changes("5 rate", x -> Twins.number(x.rate(99, 98)), 1);
        changes("6 feed", x -> x.feed(1, 2, 3, 4, 5), 20, "count 8");
        changes("7 law", x -> Due.law(x, "x(1=2)"), 1, "count 7");
        changes("7 no law", x -> Due.law(x, "x(1=2"), -1005);
        changes("9 code", x -> Due.code(x, 3, "66"), 2, "count 13");
        changes("9 code in place", x -> Due.code(x, 7, "9"), 1, "count 17");
        changes("8 arrears", x -> Due.bill(x, "j+5"), 1, "9 arrears");
        changes("8 off the hook", x -> Due.bill(x, "a^"), 1, "0 hook");
        changes("8 off the hook, one free", x -> Due.bill(x, "j^"), 1, "9 hook", "count 5");
        changes("8 on it", x -> Due.bill(x, "d_"), 1, "3 hook");
        changes("8 on it, as he was", x -> Due.bill(x, "j_"), 1);
        changes("8 dead", x -> Due.bill(x, "a*"), 1, "0 living", "count 3");
        changes("8 dead, as he was", x -> Due.bill(x, "b*"), 1);
        changes("8 connected", x -> Due.bill(x, "e?"), 1, "4 connected", "count 4", "count 5");
        changes("8 connected, as he was", x -> Due.bill(x, "a?"), 1);
        changes("8 cut off", x -> Due.bill(x, "j!"), 1, "9 connected", "count 4", "count 5");
        changes("8 cut off, as he was", x -> Due.bill(x, "e!"), 1);
        changes("8 cut off in a call", x -> Due.bill(x, "a!"), 1, "0 connected", "count 4", "count 5", "count 6",
            "0 talks", "1 talks", "call 0 0", "call 0 1", "call 0 2", "call 0 3", "call 0 4", "circuits 1 0 free",
            "circuits 2 1 free");
        changes("8 the fund", x -> Due.bill(x, "F-5"), 1, "count 1");
        changes("29 seed", x -> Twins.number(x.seed(5)), 1, "count 9");
        changes("30 keep", x -> x.keep(), 5);
        changes("20 cut", x -> readsNothing(x, y -> y.cut(1, 0, 0)), 0);
        changes("32 check", x -> readsNothing(x, y -> y.check(0)), -1);
        changes("26 dialled", x -> Due.dialled(x, "0129", 1), 1);
        aMinute();
        Due.end();
    }

    private static long readsNothing(DeadLines x, Twins.Call call) {
        x.feed(0, 0, 0, 0, 0);
        return call.on(x);
    }

    private static void changes(String what, Twins.Call call, long due, String... names) {
        DeadLines x = Twins.rich(0);
        Map<String, Integer> before = facts(x);
        Due.is(what, call.on(x), due);
        Map<String, Integer> after = facts(x);
        TreeSet<String> wanted = new TreeSet<>(java.util.List.of(names));
        for (String name : before.keySet()) {
            boolean differs = !before.get(name).equals(after.get(name));
            Due.is(what + " changes " + name, differs, wanted.contains(name));
            wanted.remove(name);
        }
        Due.is(what + ": no such names " + wanted, wanted.size(), 0);
    }

    private static Map<String, Integer> facts(DeadLines x) {
        Map<String, Integer> all = new TreeMap<>();
        String[] of = {"at", "living", "connected", "hook", "arrears", "talks", "has rung", "was rung"};
        for (int what = 0; what < 18; what++) {
            all.put("count " + what, x.count(what));
        }
        for (int s = 0; s < 16; s++) {
            for (int what = 0; what < 8; what++) {
                all.put(s + " " + of[what], x.subscriberIs(s, what));
            }
        }
        for (int i = 0; i < 5; i++) {
            for (int what = 0; what < 5; what++) {
                all.put("call " + i + " " + what, x.callIs(i, what));
            }
        }
        for (int e = 0; e < 6; e++) {
            for (int q = 0; q < e; q++) {
                all.put("circuits " + e + " " + q + " all", x.circuits(e, q, 0));
                all.put("circuits " + e + " " + q + " free", x.circuits(e, q, 1));
            }
        }
        return all;
    }

    /** A minute of which nothing comes but draws and the charges of the two calls. */
    private static void aMinute() {
        changes("10 a minute", x -> {
            Due.law(x, "v(1=2);v(1=2);v(1=2);v(1=2);v(1=2);v(1=2);v(1=2)");
            return x.minutes(1);
        }, 0, "count 0", "count 1", "count 9", "2 arrears", "call 0 3", "call 1 3");
    }
}
