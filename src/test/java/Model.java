import java.util.ArrayList;
import java.util.Arrays;
import java.util.List;
import java.util.TreeSet;

/** The document once more, written as slowly and plainly as can be, to be asked beside the class. */
final class Model {
    /** A fault of a text. */
    private static final class Fault extends RuntimeException {
        private static final long serialVersionUID = 1;
        final int answer;

        Fault(int kind, int place) {
            answer = -1000 * kind - place;
        }
    }

    /** What is divided by 0. */
    private static final class Refused extends RuntimeException {
        private static final long serialVersionUID = 1;
    }

    private interface Value {
        int of(int[] facts);
    }

    private interface Truth {
        boolean of(int[] facts);
    }

    private static final class Rule {
        char letter;
        Value value;
        Truth truth;
    }

    private static final class Person implements Cloneable {
        int exchange;
        boolean living;
        boolean connected = true;
        boolean offHook;
        int arrears;
        int rang;
        int wasRung;

        Person copy() {
            try {
                return (Person) clone();
            } catch (CloneNotSupportedException e) {
                throw new IllegalStateException(e);
            }
        }
    }

    private static final class Call {
        int from;
        int to;
        int pays;
        int left;
        List<Integer> route;

        Call copy() {
            Call c = new Call();
            c.from = from;
            c.to = to;
            c.pays = pays;
            c.left = left;
            c.route = route;
            return c;
        }
    }

    private static final class State {
        Person[] people = new Person[16];
        Call[] calls = new Call[20];
        int fund;
        int minute;
        int x = 1;

        State copy() {
            State s = new State();
            for (int i = 0; i < 16; i++) {
                s.people[i] = people[i] == null ? null : people[i].copy();
            }
            for (int i = 0; i < 20; i++) {
                s.calls[i] = calls[i] == null ? null : calls[i].copy();
            }
            s.fund = fund;
            s.minute = minute;
            s.x = x;
            return s;
        }
    }

    private final int[][] circuits = new int[8][8];
    private final String[] codes = new String[8];
    private State now = new State();
    private State kept;
    private int trunkRate = 1;
    private int callRate = 1;
    private List<Rule> rules = new ArrayList<>();
    private StringBuilder tape = new StringBuilder();
    private int began;
    private int lost;
    private int stopped;
    private String text;
    private int at;

    private static boolean two(int e, int q) {
        return e >= 0 && e < 8 && q >= 0 && q < 8 && e != q;
    }

    boolean trunk(int e, int q, int c) {
        if (!two(e, q) || c < 0 || c > 9) {
            return false;
        }
        circuits[e][q] = c;
        circuits[q][e] = c;
        return true;
    }

    boolean subscriber(int s, int e, boolean living) {
        if (s < 0 || s > 15 || e < 0 || e > 7) {
            return false;
        }
        hangUp(now, s);
        now.people[s] = new Person();
        now.people[s].exchange = e;
        now.people[s].living = living;
        return true;
    }

    boolean fund(int pence) {
        if (pence < 0 || pence > 999999) {
            return false;
        }
        now.fund = pence;
        return true;
    }

    boolean rate(int trunk, int call) {
        if (trunk < 0 || trunk > 99 || call < 0 || call > 99) {
            return false;
        }
        trunkRate = trunk;
        callRate = call;
        return true;
    }

    int feed(int... five) {
        if (tape.length() > 240) {
            return -1;
        }
        for (int i : five) {
            tape.append((char) (i >>> 24)).append((char) (i >>> 16 & 255));
            tape.append((char) (i >>> 8 & 255)).append((char) (i & 255));
        }
        return tape.length();
    }

    private String take(int n) {
        String s = tape.substring(0, n);
        tape.setLength(0);
        return s;
    }

    private boolean lacks(int n, int least, int most, int bytes) {
        return n < least || n > most || tape.length() < bytes;
    }

    // ---- texts

    private char sign() {
        return at < text.length() ? text.charAt(at) : 0xffff;
    }

    private Fault wrong() {
        return new Fault(1, at);
    }

    private void must(char c) {
        if (sign() != c) {
            throw wrong();
        }
        at++;
    }

    private boolean oneOf(String signs) {
        return signs.indexOf(sign()) >= 0;
    }

    private int number() {
        int from = at;
        while (oneOf("0123456789")) {
            if (at - from == 5) {
                throw new Fault(2, at);
            }
            at++;
        }
        if (from == at) {
            throw wrong();
        }
        return Integer.parseInt(text.substring(from, at));
    }

    int law(int n) {
        if (lacks(n, 1, 240, n)) {
            return -1;
        }
        text = take(n);
        at = 0;
        List<Rule> read = new ArrayList<>();
        try {
            while (true) {
                if (!oneOf("rwlvx")) {
                    throw wrong();
                }
                if (read.size() == 16) {
                    throw new Fault(4, at);
                }
                Rule r = new Rule();
                r.letter = sign();
                at++;
                if (r.letter != 'v' && r.letter != 'x') {
                    r.value = expression(0);
                }
                must('(');
                r.truth = condition(1);
                must(')');
                read.add(r);
                if (at == text.length()) {
                    rules = read;
                    return read.size();
                }
                must(';');
            }
        } catch (Fault f) {
            return f.answer;
        }
    }

    private Truth condition(int open) {
        Truth left = part(open);
        while (sign() == '|') {
            at++;
            Truth a = left;
            Truth b = part(open);
            left = f -> a.of(f) || b.of(f);
        }
        return left;
    }

    private Truth part(int open) {
        Truth left = test(open);
        while (sign() == '&') {
            at++;
            Truth a = left;
            Truth b = test(open);
            left = f -> a.of(f) && b.of(f);
        }
        return left;
    }

    private void opens(int open) {
        if (open == 6) {
            throw new Fault(5, at);
        }
        at++;
    }

    private Truth test(int open) {
        if (sign() == '!') {
            opens(open);
            Truth t = test(open + 1);
            return f -> !t.of(f);
        }
        if (sign() == '(') {
            opens(open);
            Truth t = condition(open + 1);
            must(')');
            return t;
        }
        Value a = expression(open);
        char c = sign();
        if (!oneOf("<>=")) {
            throw wrong();
        }
        at++;
        Value b = expression(open);
        return f -> {
            int l = a.of(f);
            int r = b.of(f);
            return c == '<' ? l < r : c == '>' ? l > r : l == r;
        };
    }

    private Value expression(int open) {
        Value left = term(open);
        while (oneOf("+-")) {
            char c = sign();
            at++;
            Value a = left;
            Value b = term(open);
            left = f -> c == '+' ? a.of(f) + b.of(f) : a.of(f) - b.of(f);
        }
        return left;
    }

    private Value term(int open) {
        Value left = factor(open);
        while (oneOf("*/%")) {
            char c = sign();
            at++;
            Value a = left;
            Value b = factor(open);
            left = f -> {
                int l = a.of(f);
                int r = b.of(f);
                if (c != '*' && r == 0) {
                    throw new Refused();
                }
                return c == '*' ? l * r : c == '/' ? l / r : l % r;
            };
        }
        return left;
    }

    private Value factor(int open) {
        if (sign() == '[') {
            opens(open);
            Value v = expression(open + 1);
            must(']');
            return v;
        }
        if (oneOf("seaofthkdn")) {
            int i = "seaofthkdn".indexOf(sign());
            at++;
            return f -> f[i];
        }
        int n = number();
        return f -> n;
    }

    int bill(int n) {
        if (lacks(n, 1, 120, n)) {
            return -1;
        }
        text = take(n);
        at = 0;
        List<Runnable> deeds = new ArrayList<>();
        try {
            while (true) {
                deeds.add(line(deeds.size()));
                if (at == text.length()) {
                    break;
                }
                must(';');
            }
        } catch (Fault f) {
            return f.answer;
        }
        deeds.forEach(Runnable::run);
        return deeds.size();
    }

    private Runnable line(int lines) {
        if (!oneOf("Fabcdefghijklmnop")) {
            throw wrong();
        }
        if (lines == 20) {
            throw new Fault(4, at);
        }
        int s = sign() - 'a';
        boolean fund = sign() == 'F';
        if (!fund && now.people[s] == null) {
            throw new Fault(7, at);
        }
        at++;
        char c = sign();
        if (!oneOf(fund ? "+-" : "+-!?*^_")) {
            throw wrong();
        }
        at++;
        int pence = c == '+' ? number() : c == '-' ? -number() : 0;
        if (fund) {
            return () -> now.fund = clamp(now.fund + pence, 999999);
        }
        Person p = now.people[s];
        return () -> {
            switch (c) {
                case '!' -> {
                    p.connected = false;
                    hangUp(now, s);
                }
                case '?' -> p.connected = true;
                case '*' -> p.living = false;
                case '^' -> p.offHook = true;
                case '_' -> p.offHook = false;
                default -> p.arrears = clamp(p.arrears + pence, 999999);
            }
        };
    }

    private static int clamp(int v, int most) {
        return v < 0 ? 0 : v > most ? most : v;
    }

    private static int noDigit(String s) {
        for (int i = 0; i < s.length(); i++) {
            if (s.charAt(i) < '0' || s.charAt(i) > '9') {
                return i;
            }
        }
        return -1;
    }

    int code(int e, int n) {
        if (e < 0 || e > 7 || lacks(n, 1, 6, n)) {
            return -1;
        }
        String s = take(n);
        if (noDigit(s) >= 0) {
            return -1000 - noDigit(s);
        }
        codes[e] = s;
        return n;
    }

    // ---- minutes

    private static Call callOf(State w, int s) {
        for (Call c : w.calls) {
            if (c != null && (c.from == s || c.to == s)) {
                return c;
            }
        }
        return null;
    }

    private static void hangUp(State w, int s) {
        for (int i = 0; i < 20; i++) {
            if (w.calls[i] != null && (w.calls[i].from == s || w.calls[i].to == s)) {
                w.calls[i] = null;
            }
        }
    }

    private static boolean isFree(State w, int s) {
        Person p = w.people[s];
        return p != null && p.connected && !p.offHook && callOf(w, s) == null;
    }

    private int left(State w, int e, int q) {
        int n = circuits[e][q];
        for (Call c : w.calls) {
            for (int i = 1; c != null && i < c.route.size(); i++) {
                int a = c.route.get(i - 1);
                int b = c.route.get(i);
                if (a == e && b == q || a == q && b == e) {
                    n--;
                }
            }
        }
        return Math.max(0, n);
    }

    /** All rows of exchanges are tried; rows come in their order, so the first of the shortest is the least. */
    private List<Integer> findRoute(State w, int e, int q) {
        int[][] free = new int[8][8];
        for (int a = 0; a < 8; a++) {
            for (int b = 0; b < 8; b++) {
                free[a][b] = a == b ? 0 : left(w, a, b);
            }
        }
        List<Integer> row = new ArrayList<>(List.of(e));
        for (int length = 1; length <= 8; length++) {
            List<Integer> found = extend(row, q, length, free);
            if (found != null) {
                return found;
            }
        }
        return null;
    }

    private static List<Integer> extend(List<Integer> row, int q, int length, int[][] free) {
        int last = row.get(row.size() - 1);
        if (row.size() == length) {
            return last == q ? new ArrayList<>(row) : null;
        }
        for (int next = 0; next < 8; next++) {
            if (free[last][next] > 0 && !row.contains(next)) {
                row.add(next);
                List<Integer> found = extend(row, q, length, free);
                row.remove(row.size() - 1);
                if (found != null) {
                    return found;
                }
            }
        }
        return null;
    }

    private int[] facts(State w, int s) {
        Person p = w.people[s];
        return new int[] {
            s, p.exchange, p.living ? 1 : 0, p.arrears, w.fund / 100, w.minute % 60, w.minute / 60 % 24, 0, 0, 0
        };
    }

    private static boolean holds(Rule r, int[] facts) {
        try {
            return r.truth.of(facts);
        } catch (Refused e) {
            return false;
        }
    }

    private int value(char letter, int[] facts, int most) {
        for (Rule r : rules) {
            if (r.letter == letter && holds(r, facts)) {
                try {
                    return clamp(r.value.of(facts), most);
                } catch (Refused e) {
                    return 0;
                }
            }
        }
        return 0;
    }

    private boolean any(char letter, int[] facts) {
        return rules.stream().anyMatch(r -> r.letter == letter && holds(r, facts));
    }

    private void minute(State w) {
        for (int i = 0; i < 20; i++) {
            Call c = w.calls[i];
            if (c != null) {
                int pence = callRate + trunkRate * (c.route.size() - 1);
                Person p = w.people[c.pays];
                if (p.living) {
                    p.arrears = clamp(p.arrears + pence, 999999);
                } else {
                    w.fund = clamp(w.fund - pence, 999999);
                }
                c.left--;
                if (c.left == 0) {
                    w.calls[i] = null;
                }
            }
        }
        for (int s = 0; s < 16; s++) {
            if (isFree(w, s)) {
                ring(w, s);
            }
        }
        for (int s = 0; s < 16; s++) {
            if (w.people[s] != null && w.people[s].connected && any('x', facts(w, s))) {
                w.people[s].connected = false;
                hangUp(w, s);
                stopped++;
            }
        }
        w.minute++;
    }

    private void ring(State w, int s) {
        int[] facts = facts(w, s);
        int r = value('r', facts, 10);
        int k = value('w', facts, 15);
        w.x = (int) ((25173L * w.x + 13849L) % 65536L);
        if (w.x % 10 >= r) {
            return;
        }
        List<Integer> route = null;
        if (k != s && isFree(w, k)) {
            route = findRoute(w, w.people[s].exchange, w.people[k].exchange);
        }
        int place = 0;
        while (place < 20 && w.calls[place] != null) {
            place++;
        }
        if (route == null || place == 20) {
            lost++;
            return;
        }
        facts[7] = k;
        facts[8] = w.people[k].living ? 0 : 1;
        facts[9] = route.size() - 1;
        int l = value('l', facts, 99);
        if (l == 0) {
            return;
        }
        Call c = new Call();
        c.from = s;
        c.to = k;
        c.pays = any('v', facts) ? k : s;
        c.left = l;
        c.route = route;
        w.calls[place] = c;
        w.people[s].rang = Math.min(9999, w.people[s].rang + 1);
        w.people[k].wasRung = Math.min(9999, w.people[k].wasRung + 1);
        began++;
    }

    private void run(State w, int n) {
        began = 0;
        lost = 0;
        stopped = 0;
        for (int i = 0; i < n && w.minute < 99999; i++) {
            minute(w);
        }
    }

    int minutes(int n) {
        if (n < 1 || n > 240) {
            return -1;
        }
        run(now, n);
        return began;
    }

    private static int calls(State w) {
        return (int) Arrays.stream(w.calls).filter(c -> c != null).count();
    }

    private boolean isTold(int s) {
        return s >= 0 && s < 16 && now.people[s] != null;
    }

    int tried(int n, int what) {
        if (n < 1 || n > 240 || what < 0 || what > 4 && (what < 100 || !isTold(what - 100))) {
            return -1;
        }
        State w = now.copy();
        run(w, n);
        return switch (what) {
            case 0 -> began;
            case 1 -> lost;
            case 2 -> now.fund - w.fund;
            case 3 -> stopped;
            case 4 -> calls(w);
            default -> w.people[what - 100].arrears;
        };
    }

    int subscriberIs(int s, int what) {
        if (!isTold(s)) {
            return -1;
        }
        Person p = now.people[s];
        Call c = callOf(now, s);
        return switch (what) {
            case 0 -> p.exchange;
            case 1 -> p.living ? 1 : 0;
            case 2 -> p.connected ? 1 : 0;
            case 3 -> p.offHook ? 1 : 0;
            case 4 -> p.arrears;
            case 5 -> c == null ? -2 : c.from == s ? c.to : c.from;
            case 6 -> p.rang;
            case 7 -> p.wasRung;
            default -> -1;
        };
    }

    int callIs(int i, int what) {
        if (i < 0 || i > 19 || what < 0 || what > 4) {
            return -1;
        }
        Call c = now.calls[i];
        if (c == null) {
            return -2;
        }
        return new int[] {c.from, c.to, c.pays, c.left, c.route.size() - 1}[what];
    }

    int circuits(int e, int q, int what) {
        if (!two(e, q) || what < 0 || what > 1) {
            return -1;
        }
        return what == 0 ? circuits[e][q] : left(now, e, q);
    }

    int route(int e, int q, int what) {
        if (e < 0 || e > 7 || q < 0 || q > 7 || what != 100 && (what < 0 || what > 7)) {
            return -1;
        }
        List<Integer> row = findRoute(now, e, q);
        if (row == null) {
            return -2;
        }
        return what == 100 ? row.size() - 1 : what < row.size() ? row.get(what) : -4;
    }

    int fundLasts(int n) {
        if (n < 1 || n > 240) {
            return -1;
        }
        State w = now.copy();
        for (int i = 0; i <= n; i++) {
            if (w.fund == 0) {
                return i;
            }
            if (w.minute == 99999 || i == n) {
                break;
            }
            minute(w);
        }
        return -2;
    }

    // ---- the net

    /** Of all ways to part the exchanges in two, the one that the fewest go across. */
    private int leastAcross(int e, int q, boolean trunks) {
        int least = Integer.MAX_VALUE;
        for (int set = 0; set < 256; set++) {
            if ((set >> e & 1) == 1 && (set >> q & 1) == 0) {
                int sum = 0;
                for (int a = 0; a < 8; a++) {
                    for (int b = 0; b < 8; b++) {
                        if ((set >> a & 1) == 1 && (set >> b & 1) == 0) {
                            sum += trunks ? Math.min(1, circuits[a][b]) : circuits[a][b];
                        }
                    }
                }
                least = Math.min(least, sum);
            }
        }
        return least;
    }

    int atOnce(int e, int q) {
        return two(e, q) ? leastAcross(e, q, false) : -1;
    }

    int stops(int e, int q) {
        return two(e, q) ? leastAcross(e, q, true) : -1;
    }

    int inTheMiddle() {
        int[][] far = new int[8][8];
        for (int a = 0; a < 8; a++) {
            for (int b = 0; b < 8; b++) {
                far[a][b] = a == b ? 0 : circuits[a][b] > 0 ? 1 : 99;
            }
        }
        for (int m = 0; m < 8; m++) {
            for (int a = 0; a < 8; a++) {
                for (int b = 0; b < 8; b++) {
                    far[a][b] = Math.min(far[a][b], far[a][m] + far[m][b]);
                }
            }
        }
        TreeSet<Integer> ranks = new TreeSet<>();
        for (int a = 0; a < 8; a++) {
            int come = 0;
            int sum = 0;
            for (int b = 0; b < 8; b++) {
                if (far[a][b] < 99) {
                    come++;
                    sum += far[a][b];
                }
            }
            ranks.add((8 - come) * 100000 + sum * 100 + a);
        }
        return ranks.first() % 100;
    }

    // ---- sums

    int cut(int n, int bound, int what) {
        if (bound < 0 || bound > 3060 || what < 0 || what > 1 || lacks(n, 1, 12, 2 * n)) {
            return -1;
        }
        String s = take(2 * n);
        int best = 0;
        int who = 0;
        for (int set = 0; set < 1 << n; set++) {
            int cost = 0;
            int trouble = 0;
            for (int i = 0; i < n; i++) {
                if ((set >> i & 1) == 1) {
                    cost += s.charAt(2 * i);
                    trouble += s.charAt(2 * i + 1);
                }
            }
            if (trouble <= bound && cost > best) {
                best = cost;
                who = set;
            }
        }
        return what == 0 ? best : who;
    }

    int heir(int n, int bill, int what) {
        if (bill < 0 || bill > 3060 || what < 0 || what > 1 || lacks(n, 1, 12, n)) {
            return -1;
        }
        String s = take(n);
        TreeSet<Integer> ways = new TreeSet<>();
        for (int set = 0; set < 1 << n; set++) {
            int sum = 0;
            for (int i = 0; i < n; i++) {
                sum += (set >> i & 1) * s.charAt(i);
            }
            if (sum == bill) {
                ways.add(Integer.bitCount(set) * 100000 + set);
            }
        }
        return what == 0 ? ways.size() : ways.isEmpty() ? -2 : ways.first() % 100000;
    }

    int busy(int n, int what) {
        boolean later = what >= 100 && what <= 120;
        if (what != 0 && what != 1 && !later || lacks(n, 1, 10, 2 * n)) {
            return -1;
        }
        String s = take(2 * n);
        for (int i = 0; i < n; i++) {
            if (s.charAt(2 * i + 1) == 0) {
                return -2;
            }
        }
        if (later) {
            int c = 1;
            while (!waitsNoMore(s, n, c, what - 100)) {
                c++;
            }
            return c;
        }
        int most = 0;
        int when = 0;
        for (int m = 0; m < 600; m++) {
            int many = 0;
            for (int i = 0; i < n; i++) {
                if (m >= s.charAt(2 * i) && m < s.charAt(2 * i) + s.charAt(2 * i + 1)) {
                    many++;
                }
            }
            if (many > most) {
                most = many;
                when = m;
            }
        }
        return what == 0 ? most : when;
    }

    /** Minute by minute, with a queue of those that wait. */
    private static boolean waitsNoMore(String s, int n, int c, int later) {
        List<Integer> queue = new ArrayList<>();
        List<Integer> ends = new ArrayList<>();
        for (int m = 0; m < 4000; m++) {
            for (int i = 0; i < n; i++) {
                if (s.charAt(2 * i) == m) {
                    queue.add(i);
                }
            }
            int minute = m;
            ends.removeIf(e -> e <= minute);
            while (!queue.isEmpty() && ends.size() < c) {
                int i = queue.remove(0);
                if (m - s.charAt(2 * i) > later) {
                    return false;
                }
                ends.add(m + s.charAt(2 * i + 1));
            }
        }
        return true;
    }

    int cheapest(int n, int minutes, int what) {
        boolean known = what == 100 || what >= 0 && what < n;
        if (!known || minutes < 1 || minutes > 240 || lacks(n, 1, 5, 2 * n)) {
            return -1;
        }
        String s = take(2 * n);
        for (int i = 0; i < n; i++) {
            if (s.charAt(2 * i) < 1 || s.charAt(2 * i) > 60 || s.charAt(2 * i + 1) == 0) {
                return -2;
            }
        }
        int[][] best = new int[minutes + 1][];
        best[0] = new int[n + 1];
        for (int m = 1; m <= minutes; m++) {
            for (int i = 0; i < n; i++) {
                int[] row = best[Math.max(0, m - s.charAt(2 * i))].clone();
                row[i + 1]--;
                row[0] += s.charAt(2 * i + 1);
                // Counts are held below 0, so that the most is the least row.
                if (best[m] == null || Arrays.compare(row, best[m]) < 0) {
                    best[m] = row;
                }
            }
        }
        return what == 100 ? best[minutes][0] : -best[minutes][what + 1];
    }

    int told(int n, int what) {
        if (what < 0 || what > 1 || lacks(n, 2, 16, n)) {
            return -1;
        }
        String s = take(n);
        for (int i = 1; i < n; i++) {
            if (s.charAt(i) >= i) {
                return -2;
            }
        }
        if (what == 0) {
            return longest(s, 0);
        }
        int first = 0;
        for (int i = n - 1; i > 0; i--) {
            if (s.charAt(i) == 0 && (first == 0 || longest(s, i) >= longest(s, first))) {
                first = i;
            }
        }
        return first;
    }

    private static int longest(String s, int teller) {
        List<Integer> own = new ArrayList<>();
        for (int i = teller + 1; i < s.length(); i++) {
            if (s.charAt(i) == teller) {
                own.add(longest(s, i));
            }
        }
        return own.size() < 7 ? anyOrder(own, 0) : sorted(own);
    }

    private static int anyOrder(List<Integer> own, int gone) {
        int best = own.isEmpty() ? gone : Integer.MAX_VALUE;
        for (int i = 0; i < own.size(); i++) {
            List<Integer> rest = new ArrayList<>(own);
            int one = gone + 1 + rest.remove(i);
            best = Math.min(best, Math.max(one, anyOrder(rest, gone + 1)));
        }
        return best;
    }

    private static int sorted(List<Integer> own) {
        own.sort((a, b) -> b - a);
        int most = 0;
        for (int i = 0; i < own.size(); i++) {
            most = Math.max(most, i + 1 + own.get(i));
        }
        return most;
    }

    int epitaph(int k, int m, boolean back, int what) {
        if (k < 1 || k > 30 || what < 0 || what >= m || lacks(m, 1, 30, k + m)) {
            return -1;
        }
        String s = take(k + m);
        for (int i = 0; i < s.length(); i++) {
            if (s.charAt(i) < 'A' || s.charAt(i) > 'Z') {
                return -1000 - i;
            }
        }
        StringBuilder laid = new StringBuilder();
        for (char c : (s.substring(0, k) + "ABCDEFGHIJKLMNOPQRSTUVWXYZ").toCharArray()) {
            if (laid.indexOf(String.valueOf(c)) < 0) {
                laid.append(c);
            }
        }
        char c = s.charAt(k + what);
        return back ? laid.indexOf(String.valueOf(c)) : laid.charAt(c - 'A') - 'A';
    }

    // ---- plans

    int dialled(int n, int what) {
        if (what < 0 || what > 1 || lacks(n, 1, 12, n)) {
            return -1;
        }
        String s = take(n);
        if (noDigit(s) >= 0) {
            return -1000 - noDigit(s);
        }
        for (int length = 6; length > 0; length--) {
            for (int e = 0; e < 8; e++) {
                if (codes[e] != null && codes[e].length() == length && s.startsWith(codes[e])) {
                    return what == 0 ? e : n - length;
                }
            }
        }
        return -2;
    }

    int clear() {
        for (int e = 0; e < 8; e++) {
            for (int q = 0; q < 8; q++) {
                if (e != q && codes[e] != null && codes[q] != null && codes[e].startsWith(codes[q])) {
                    return 0;
                }
            }
        }
        return 1;
    }

    int freeCode(int k) {
        if (k < 1 || k > 3) {
            return -1;
        }
        if (clear() == 0) {
            return -2;
        }
        for (int i = 0; i < (int) Math.pow(10, k); i++) {
            String s = String.format("%0" + k + "d", i);
            boolean stays = true;
            for (String c : codes) {
                stays &= c == null || !c.startsWith(s) && !s.startsWith(c);
            }
            if (stays) {
                return i;
            }
        }
        return -2;
    }

    // ---- the rest

    boolean seed(int x) {
        if (x < 0 || x > 65535) {
            return false;
        }
        now.x = x;
        return true;
    }

    int keep() {
        kept = now.copy();
        return now.minute;
    }

    boolean undo() {
        if (kept == null) {
            return false;
        }
        now = kept.copy();
        return true;
    }

    int check(int n) {
        if (lacks(n, 0, 16, n)) {
            return -2;
        }
        String s = take(n);
        for (int i = 0; i < n; i++) {
            if ((now.people[i] == null ? 0 : now.people[i].arrears % 256) != s.charAt(i)) {
                return i;
            }
        }
        return -1;
    }

    int count(int what) {
        int told = 0;
        int dead = 0;
        int cutOff = 0;
        int free = 0;
        for (int s = 0; s < 16; s++) {
            Person p = now.people[s];
            if (p != null) {
                told |= 1 << s;
                dead |= p.living ? 0 : 1 << s;
                cutOff |= p.connected ? 0 : 1 << s;
                free |= isFree(now, s) ? 1 << s : 0;
            }
        }
        if (what >= 10 && what <= 17) {
            return codes[what - 10] == null ? -1 : codes[what - 10].length();
        }
        if (what < 0 || what > 9) {
            return -1;
        }
        return new int[] {
            now.minute, now.fund, told, dead, cutOff, free, calls(now), rules.size(), tape.length(), now.x
        }[what];
    }
}
