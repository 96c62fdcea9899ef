import java.nio.charset.StandardCharsets;
import java.util.Random;

/** Runs of drawn calls (always the same ones), each asked of the class and of the model. */
public final class ModelTest {
    private static final int RUNS = 600;
    private final DeadLines x = new DeadLines();
    private final Model m = new Model();
    private final Random draw;
    private final int run;
    private int calls;

    private ModelTest(int run) {
        this.run = run;
        this.draw = new Random(run);
    }

    public static void main(String[] args) {
        int runs = args.length > 0 ? Integer.parseInt(args[0]) : RUNS;
        for (int run = 0; run < runs && Due.wrong() < 20; run++) {
            new ModelTest(run).go();
        }
        Due.end();
    }

    private void go() {
        if (draw.nextInt(8) != 0) {
            setUp();
        }
        for (int i = 0; i < 120; i++) {
            step();
        }
        lookAround();
    }

    private void due(String call, long got, long want) {
        calls++;
        Due.is("run " + run + ", call " + calls + ": " + call, got, want);
    }

    private void due(String call, boolean got, boolean want) {
        due(call, got ? 1 : 0, want ? 1 : 0);
    }

    private int below(int n) {
        return draw.nextInt(n);
    }

    /** Mostly from 0 to most, at times beyond. */
    private int near(int most) {
        int[] odd = {-1, most + 1, most, 0, Integer.MIN_VALUE, Integer.MAX_VALUE, 100, -100};
        return below(15) == 0 ? odd[below(odd.length)] : below(most + 1);
    }

    private void setUp() {
        int people = 2 + below(15);
        for (int s = 0; s < people; s++) {
            subscriber(below(3) == 0 ? below(16) : s, below(8), below(3) != 0);
        }
        int trunks = below(20);
        for (int i = 0; i < trunks; i++) {
            trunk(below(8), below(8), below(4));
        }
        int pence = below(2) == 0 ? below(3000) : below(200);
        due("fund " + pence, x.fund(pence), m.fund(pence));
        text(goodLaw());
    }

    private void subscriber(int s, int e, boolean living) {
        due("subscriber " + s + " " + e, x.subscriber(s, e, living), m.subscriber(s, e, living));
    }

    private void trunk(int e, int q, int c) {
        due("trunk " + e + " " + q + " " + c, x.trunk(e, q, c), m.trunk(e, q, c));
    }

    private void step() {
        switch (below(30)) {
            case 0 -> subscriber(near(15), near(7), below(3) != 0);
            case 1 -> trunk(near(7), near(7), near(9));
            case 2 -> {
                int p = near(999999);
                due("fund " + p, x.fund(p), m.fund(p));
            }
            case 3 -> {
                int t = near(99);
                int c = near(99);
                due("rate " + t + " " + c, x.rate(t, c), m.rate(t, c));
            }
            case 4 -> text(spoilt(goodLaw()));
            case 5 -> text(goodLaw());
            case 6, 7 -> billOf(below(3) == 0 ? spoilt(goodBill()) : goodBill());
            case 8 -> codeOf();
            case 9, 10, 11, 12 -> {
                int n = below(3) == 0 ? near(240) : 1 + below(5);
                due("minutes " + n, x.minutes(n), m.minutes(n));
            }
            case 13, 14 -> {
                int n = near(240);
                int w = below(2) == 0 ? near(4) : 100 + below(17);
                due("tried " + n + " " + w, x.tried(n, w), m.tried(n, w));
            }
            case 15 -> {
                int n = near(240);
                due("fundLasts " + n, x.fundLasts(n), m.fundLasts(n));
            }
            case 16 -> {
                int s = near(65535);
                due("seed " + s, x.seed(s), m.seed(s));
            }
            case 17 -> due("keep", x.keep(), m.keep());
            case 18 -> due("undo", x.undo(), m.undo());
            case 19 -> cutOf();
            case 20 -> heirOf();
            case 21 -> busyOf();
            case 22 -> cheapestOf();
            case 23 -> toldOf();
            case 24 -> epitaphOf();
            case 25 -> dialledOf();
            case 26 -> checkOf();
            case 27 -> netOf();
            case 28 -> lookAt();
            default -> feed(below(3) == 0 ? new byte[0] : bytes(20));
        }
    }

    private byte[] bytes(int n) {
        byte[] b = new byte[n];
        draw.nextBytes(b);
        return b;
    }

    /** The bytes and what fills them up to whole feeds. */
    private void feed(byte[] b) {
        for (int from = 0; from < b.length; from += 20) {
            int[] five = new int[5];
            for (int i = 0; i < 20; i++) {
                five[i / 4] = five[i / 4] << 8 | (from + i < b.length ? b[from + i] & 255 : below(256));
            }
            due("feed", x.feed(five[0], five[1], five[2], five[3], five[4]), m.feed(five));
        }
    }

    private byte[] latin(String s) {
        return s.getBytes(StandardCharsets.ISO_8859_1);
    }

    /** An empty tape is wanted mostly, so that the text stands at its beginning. */
    private void lay(byte[] b) {
        if (below(12) != 0) {
            due("check 0", x.check(0), m.check(0));
        }
        feed(b);
    }

    private int length(int n) {
        return below(25) == 0 ? near(260) : n;
    }

    private void text(String law) {
        lay(latin(law));
        int n = length(law.length());
        due("law " + law, x.law(n), m.law(n));
    }

    private void billOf(String bill) {
        lay(latin(bill));
        int n = length(bill.length());
        due("bill " + bill, x.bill(n), m.bill(n));
    }

    private String digits(int n) {
        StringBuilder s = new StringBuilder();
        for (int i = 0; i < n; i++) {
            s.append((char) ('0' + (below(3) == 0 ? below(10) : below(2))));
        }
        return s.toString();
    }

    private void codeOf() {
        String s = digits(1 + below(below(3) == 0 ? 6 : 3));
        s = below(12) == 0 ? spoilt(s) : s;
        lay(latin(s));
        int e = near(7);
        int n = length(s.length());
        due("code " + e + " " + s, x.code(e, n), m.code(e, n));
    }

    private void dialledOf() {
        String s = digits(1 + below(12));
        s = below(12) == 0 ? spoilt(s) : s;
        lay(latin(s));
        int w = near(1);
        int n = length(s.length());
        due("dialled " + s + " " + w, x.dialled(n, w), m.dialled(n, w));
        due("clear", x.clear(), m.clear());
        int k = near(3);
        due("freeCode " + k, x.freeCode(k), m.freeCode(k));
    }

    private byte[] smallBytes(int n, int most) {
        byte[] b = new byte[n];
        for (int i = 0; i < n; i++) {
            b[i] = (byte) below(most);
        }
        return b;
    }

    private void cutOf() {
        int n = 1 + below(12);
        int most = below(2) == 0 ? 256 : 6;
        lay(smallBytes(2 * n, most));
        int bound = below(3) == 0 ? near(3060) : below(n * most / 2 + 1);
        int w = near(1);
        n = length(n);
        due("cut " + n + " " + bound + " " + w, x.cut(n, bound, w), m.cut(n, bound, w));
    }

    private void heirOf() {
        int n = 1 + below(12);
        int most = below(2) == 0 ? 256 : 9;
        lay(smallBytes(n, most));
        int bill = below(3) == 0 ? near(3060) : below(n * most / 2 + 1);
        int w = near(1);
        n = length(n);
        due("heir " + n + " " + bill + " " + w, x.heir(n, bill, w), m.heir(n, bill, w));
    }

    private void busyOf() {
        int n = 1 + below(10);
        byte[] b = smallBytes(2 * n, below(3) == 0 ? 256 : 12);
        for (int i = 1; i < b.length && below(20) != 0; i += 2) {
            b[i] = b[i] == 0 ? 1 : b[i];
        }
        lay(b);
        int w = below(2) == 0 ? near(1) : 100 + below(below(3) == 0 ? 22 : 8);
        n = length(n);
        due("busy " + n + " " + w, x.busy(n, w), m.busy(n, w));
    }

    private void cheapestOf() {
        int n = 1 + below(5);
        byte[] b = smallBytes(2 * n, below(3) == 0 ? 61 : 9);
        for (int i = 0; i < b.length && below(30) != 0; i++) {
            b[i] = b[i] == 0 ? 1 : b[i];
        }
        lay(b);
        int minutes = near(240);
        int w = below(3) == 0 ? 100 : near(n - 1);
        n = length(n);
        due("cheapest " + n + " " + minutes + " " + w, x.cheapest(n, minutes, w), m.cheapest(n, minutes, w));
    }

    private void toldOf() {
        int n = 2 + below(15);
        byte[] b = bytes(n);
        for (int i = 1; i < n; i++) {
            b[i] = (byte) below(below(60) == 0 ? i + 1 : i);
        }
        lay(b);
        int w = near(1);
        n = length(n);
        due("told " + n + " " + w, x.told(n, w), m.told(n, w));
    }

    private void epitaphOf() {
        int k = 1 + below(30);
        int n = 1 + below(30);
        byte[] b = smallBytes(k + n, 26);
        for (int i = 0; i < b.length; i++) {
            b[i] = (byte) (b[i] + (below(150) == 0 ? below(256) : 'A'));
        }
        lay(b);
        int w = near(n - 1);
        boolean back = draw.nextBoolean();
        n = length(n);
        due("epitaph " + k + " " + n + " " + w, x.epitaph(k, n, back, w), m.epitaph(k, n, back, w));
    }

    private void checkOf() {
        byte[] b = new byte[16];
        for (int s = 0; s < 16; s++) {
            b[s] = (byte) Math.max(0, m.subscriberIs(s, 4));
        }
        if (below(3) == 0) {
            b[below(16)]++;
        }
        lay(b);
        int n = near(16);
        due("check " + n, x.check(n), m.check(n));
    }

    private void netOf() {
        int e = near(7);
        int q = near(7);
        due("atOnce " + e + " " + q, x.atOnce(e, q), m.atOnce(e, q));
        due("stops " + e + " " + q, x.stops(e, q), m.stops(e, q));
        due("inTheMiddle", x.inTheMiddle(), m.inTheMiddle());
        int w = below(3) == 0 ? 100 : near(7);
        due("route " + e + " " + q + " " + w, x.route(e, q, w), m.route(e, q, w));
        int v = near(1);
        due("circuits " + e + " " + q + " " + v, x.circuits(e, q, v), m.circuits(e, q, v));
    }

    private void lookAt() {
        int s = near(15);
        int w = near(7);
        due("subscriberIs " + s + " " + w, x.subscriberIs(s, w), m.subscriberIs(s, w));
        int i = near(19);
        int v = near(4);
        due("callIs " + i + " " + v, x.callIs(i, v), m.callIs(i, v));
        int c = near(17);
        due("count " + c, x.count(c), m.count(c));
    }

    private void lookAround() {
        for (int s = 0; s < 16; s++) {
            for (int w = 0; w < 8; w++) {
                due("subscriberIs " + s + " " + w, x.subscriberIs(s, w), m.subscriberIs(s, w));
            }
        }
        for (int i = 0; i < 20; i++) {
            for (int w = 0; w < 5; w++) {
                due("callIs " + i + " " + w, x.callIs(i, w), m.callIs(i, w));
            }
        }
        for (int e = 0; e < 8; e++) {
            for (int q = 0; q < 8; q++) {
                due("circuits " + e + " " + q, x.circuits(e, q, 1), m.circuits(e, q, 1));
                due("route " + e + " " + q, x.route(e, q, 100), m.route(e, q, 100));
            }
        }
        for (int c = -1; c < 19; c++) {
            due("count " + c, x.count(c), m.count(c));
        }
    }

    // ---- texts that are drawn

    private String goodLaw() {
        StringBuilder s = new StringBuilder();
        int rules = 1 + below(below(8) == 0 ? 18 : 7);
        for (int i = 0; i < rules; i++) {
            String rule = rule();
            if (s.length() + rule.length() < 240) {
                s.append(s.length() > 0 ? ";" : "").append(rule);
            }
        }
        return s.toString();
    }

    private String rule() {
        char letter = "rrwwllvx".charAt(below(8));
        String condition = below(3) == 0 ? "1=1" : condition(below(3));
        return switch (letter) {
            case 'r' -> "r" + (below(2) == 0 ? "10" : expression(1)) + "(" + condition + ")";
            case 'w' -> "w" + (below(2) == 0 ? "s+1" : expression(1)) + "(" + condition + ")";
            case 'l' -> "l" + (below(2) == 0 ? "" + below(6) : expression(1)) + "(" + condition + ")";
            case 'x' -> "x(o>" + (5 + below(200)) + (below(3) == 0 ? "|" + condition + "&" + condition(1) : "") + ")";
            default -> "v(" + condition + ")";
        };
    }

    private String condition(int deep) {
        StringBuilder s = new StringBuilder(test(deep));
        for (int i = below(3); i > 0; i--) {
            s.append("&|".charAt(below(2))).append(test(deep));
        }
        return s.toString();
    }

    private String test(int deep) {
        if (deep > 0 && below(3) == 0) {
            return "(" + condition(deep - 1) + ")";
        }
        if (deep > 0 && below(3) == 0) {
            return "!" + test(deep - 1);
        }
        return expression(deep) + "<>=".charAt(below(3)) + expression(deep);
    }

    private String expression(int deep) {
        StringBuilder s = new StringBuilder(factor(deep));
        for (int i = below(3); i > 0; i--) {
            s.append("+-*/%".charAt(below(5))).append(factor(deep));
        }
        return s.toString();
    }

    private String factor(int deep) {
        if (deep > 0 && below(4) == 0) {
            return "[" + expression(deep - 1) + "]";
        }
        if (below(2) == 0) {
            return "" + "seaofthkdn".charAt(below(10));
        }
        return "" + below(below(5) == 0 ? 100000 : 12);
    }

    private String goodBill() {
        StringBuilder s = new StringBuilder();
        int lines = 1 + below(below(5) == 0 ? 24 : 6);
        for (int i = 0; i < lines && s.length() < 110; i++) {
            int who = below(16);
            boolean fund = below(6) == 0;
            if (!fund && m.subscriberIs(who, 0) < 0 && below(40) != 0) {
                continue;
            }
            char what = fund || below(2) == 0 ? "+-".charAt(below(2)) : "!????**^_".charAt(below(9));
            s.append(s.length() > 0 ? ";" : "").append(fund ? 'F' : (char) ('a' + who)).append(what);
            if (what == '+' || what == '-') {
                s.append(below(below(3) == 0 ? 100000 : 300));
            }
        }
        return s.length() == 0 ? "F+1" : s.toString();
    }

    private String spoilt(String good) {
        StringBuilder s = new StringBuilder(good);
        String signs = "rwlvxseaofthkdn0123456789()[]!&|<>=+-*/%;F?^_ aq~";
        int times = 1 + below(2);
        for (int i = 0; i < times && s.length() > 0; i++) {
            int at = below(s.length());
            char c = signs.charAt(below(signs.length()));
            switch (below(5)) {
                case 0 -> s.setCharAt(at, c);
                case 1 -> s.insert(at, c);
                case 2 -> s.deleteCharAt(at);
                case 3 -> s.insert(at, String.valueOf(c).repeat(1 + below(7)));
                default -> s.setLength(at);
            }
        }
        return s.length() == 0 ? "x" : s.length() > 240 ? s.substring(0, 240) : s.toString();
    }
}
