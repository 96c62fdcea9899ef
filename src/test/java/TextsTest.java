/** The faults of laws, bills, codes, numbers that are dialled and epitaphs: each where it stands, and what it leaves. */
public final class TextsTest {
    private static final int NONE = -1;
    private static final int LAST_BYTE = 255;

    private TextsTest() {
    }

    public static void main(String[] args) {
        lawNumbers();
        lawRules();
        lawOpenOnes();
        lawEnds();
        lawOfEachByte();
        lawAtItsLongest();
        lawThatFailsLeavesTheOneBefore();
        billNumbers();
        billLines();
        billUntold();
        billOfEachByte();
        billAtItsLongest();
        billThatFailsDoesNothing();
        digitsAlone();
        lettersAlone();
        Due.end();
    }

    private static void lawIs(String text, int due) {
        Due.is("7 " + text, Due.law(new DeadLines(), text), due);
    }

    private static void lawNumbers() {
        lawIs("r1(1=1)", 1);
        lawIs("r99999(1=1)", 1);
        lawIs("r00000(1=1)", 1);
        lawIs("r(1=1)", -1001);
        lawIs("r000000(1=1)", -2006);
        lawIs("r999999(1=1)", -2006);
        lawIs("r9999999(1=1)", -2006);
        lawIs("r1+123456(1=1)", -2008);
        lawIs("r[123456](1=1)", -2007);
        lawIs("v(123456=1)", -2007);
        lawIs("v(1=123456)", -2009);
        lawIs("v(1=12345)", 1);
        lawIs("v(1=123456", -2009);
        lawIs("r123456", -2006);
        lawIs("r12345", -1006);
        lawIs("r12345x", -1006);
        // The first from the left, whatever its number.
        lawIs("r123456(q", -2006);
        lawIs("rq123456(1=1)", -1001);
        lawIs("v(1=123456;;", -2009);
    }

    private static void lawRules() {
        String sixteen = rules(16, "v(1=1)");
        lawIs(sixteen, 16);
        int at = sixteen.length() + 1;
        for (char letter : "rwlvx".toCharArray()) {
            lawIs(sixteen + ";" + letter, -4000 - at);
            lawIs(sixteen + ";" + letter + "1(1=1)", -4000 - at);
        }
        for (char letter : "seaofthkdnqRV;( 0".toCharArray()) {
            lawIs(sixteen + ";" + letter, -1000 - at);
        }
        lawIs(sixteen + ";", -1000 - at);
        lawIs(sixteen + "v", -1000 - at + 1);
        lawIs(sixteen + ";v;", -4000 - at);
        lawIs(rules(15, "v(1=1)") + ";v", -1000 - 15 * 7 - 1);
        lawIs(rules(15, "v(1=1)") + ";w1(1=1)", 16);
        // A fault ahead of the 17th is the first one.
        lawIs(rules(15, "v(1=1)") + ";v(1=1;v", -1000 - 15 * 7 - 5);
        lawIs("v(1=1)", 1);
    }

    private static String rules(int many, String rule) {
        return (rule + ";").repeat(many - 1) + rule;
    }

    private static void lawOpenOnes() {
        // Six may be open in one another, the ( of the rule among them.
        lawIs("v((((((1=1))))))", 1);
        lawIs("v(((((((1=1)))))))", -5007);
        lawIs("v((((((1=1)))))", -1015);
        lawIs("v((((((1=1)))))))", -1016);
        lawIs("v(!!!!!1=1)", 1);
        lawIs("v(!!!!!!1=1)", -5007);
        lawIs("v([[[[[1]]]]]=1)", 1);
        lawIs("v([[[[[[1]]]]]]=1)", -5007);
        lawIs("v(1=[[[[[1]]]]])", 1);
        lawIs("v(1=[[[[[[1]]]]]])", -5009);
        lawIs("v(!(!([1]=1)))", 1);
        lawIs("v(!(!([[1]]=1)))", -5007);
        lawIs("v(!(!(1=[1])))", 1);
        lawIs("v(!(!(1=[[1]])))", -5009);
        lawIs("v(!(!(!1=1)))", 1);
        lawIs("v(!(!(![1]=1)))", -5007);
        // The E of a rule stands ahead of its (.
        lawIs("r[[[[[[1]]]]]](1=1)", 1);
        lawIs("r[[[[[[[1]]]]]]](1=1)", -5007);
        lawIs("w[[[[[[1]]]]]](((((([1]=1))))))", -5000 - 20);
        lawIs("l[[[[[[1]]]]]]((((((1=1))))))", 1);
        // A ! is open till its test ends, a bracket till it is shut.
        lawIs("v(!1=1&!1=1&!1=1&!1=1&!1=1&!1=1&!1=1)", 1);
        lawIs("v(!1=1|!1=1|!1=1|!1=1|!1=1|!1=1|!1=1)", 1);
        lawIs("v(!!!!!1=1&!!!!!1=1)", 1);
        lawIs("v(!!!!!1=1&!!!!!!1=1)", -5000 - 16);
        lawIs("v(!!!!(1=1)&(1=1))", 1);
        lawIs("v((1=1)&(1=1)&(1=1)&(1=1)&(1=1)&(1=1)&(1=1))", 1);
        lawIs("v([1]+[1]+[1]+[1]+[1]+[1]+[1]=[7])", 1);
        lawIs("v(!!!!(!1=1&1=1))", -5007);
        lawIs("v(!!!(!1=1&1=[1]))", 1);
        // What can't stand there is no seventh.
        lawIs("v([[[[[(1)]]]]]=1)", -1007);
        lawIs("v([[[[[!1]]]]]=1)", -1007);
        lawIs("v((((((1]", -1008);
        lawIs("v((((((1[", -1008);
        lawIs("v((((((1=(", -1009);
        lawIs("v((((((1=!", -1009);
        lawIs("r[[[[[[(", -1007);
        lawIs("r[[[[[[!", -1007);
        lawIs("r[[[[[[[", -5007);
    }

    private static void lawEnds() {
        String text = "r[1+s]*2(!1=1&(k<2|n>0));x(o=99999)";
        Due.is("7 whole", Due.law(new DeadLines(), text), 2);
        int first = text.indexOf(';');
        for (int length = 1; length < text.length(); length++) {
            int due = length == first ? 1 : -1000 - length;
            Due.is("7 the end at " + length, Due.law(new DeadLines(), text.substring(0, length)), due);
        }
        lawIs("r", -1001);
        lawIs("v", -1001);
        lawIs(";", -1000);
        lawIs(" v(1=1)", -1000);
        lawIs("v (1=1)", -1001);
        lawIs("v( 1=1)", -1002);
        lawIs("v(1 =1)", -1003);
        lawIs("v(1= 1)", -1004);
        lawIs("v(1=1 )", -1005);
        lawIs("v(1=1) ", -1006);
        lawIs("v(1=1); v(1=1)", -1007);
        lawIs("v(1=1)\0", -1006);
    }

    /** Each byte at each place of a law, beside the model. */
    private static void lawOfEachByte() {
        String[] texts = {"r[1+s]*2(!1=1&(k<2|n>0));x(o=9)", "l12345(a=1);w[[f-t]%h](d/e=5)", "v(!!!!(1=1))"};
        for (String text : texts) {
            for (int place = 0; place < text.length(); place++) {
                for (int b = 0; b <= LAST_BYTE; b++) {
                    String other = text.substring(0, place) + (char) b + text.substring(place + 1);
                    Model m = new Model();
                    putModel(m, other);
                    Due.is("7 " + other, Due.law(new DeadLines(), other), m.law(other.length()));
                }
            }
        }
    }

    private static void putModel(Model m, String text) {
        for (int from = 0; from < text.length(); from += 20) {
            int[] five = new int[5];
            for (int i = 0; i < 20; i++) {
                five[i / 4] = five[i / 4] << 8 | (from + i < text.length() ? text.charAt(from + i) : 'a');
            }
            m.feed(five);
        }
    }

    private static void lawAtItsLongest() {
        String head = "x(s";
        String longest = head + "+1".repeat(116) + "*1=0)";
        Due.is("7 its length", longest.length(), 240);
        lawIs(longest, 1);
        DeadLines x = new DeadLines();
        Due.put(x, longest + ";v(1=1)");
        Due.is("7 a 241st byte can't be asked", x.law(241), NONE);
        Due.is("7 the tape stays", x.count(8), 260);
        Due.is("7 the first 240", x.law(240), 1);
        Due.is("7 empty then", x.count(8), 0);
        Due.is("7 one rule", x.count(7), 1);
        // A fault at the last place there is, and behind it.
        lawIs(longest.substring(0, 239) + "+", -1240);
        lawIs(longest.substring(0, 239) + ";", -1239);
        lawIs(longest.substring(0, 238) + "0)", 1);
        lawIs(longest.substring(0, 238) + "00", -1240);
    }

    private static void lawThatFailsLeavesTheOneBefore() {
        String[] faulty = {"x(1=1);y", "x(1=1);", "x(123456=1)", rules(17, "x(1=1)"), "x(!!!!!!1=1)", "x", "r5(1=1"};
        int[] due = {-1007, -1007, -2007, -4112, -5007, -1001, -1006};
        for (int i = 0; i < faulty.length; i++) {
            Twins.readsInVain("7 stays", faulty[i], readsLaw(faulty[i]), due[i]);
        }
        Twins.emptiesTape("7 empty then", 260, x -> x.law(1), -1001);
        Twins.emptiesTape("7 empty then", 260, x -> x.law(239), -1239);
        DeadLines x = new DeadLines();
        Due.law(x, "x(1=1;");
        Due.is("7 none before: none", x.count(7), 0);
        Due.law(x, "x(1=1);v(1=1)");
        Due.law(x, rules(16, "w1(1=1)") + ";w");
        Due.is("7 two", x.count(7), 2);
        Due.law(x, "w1(1=1)");
        Due.is("7 in place of the one before", x.count(7), 1);
        x.subscriber(0, 0, true);
        Due.is("7 of which nothing is left", x.tried(1, 3), 0);
    }

    private static Twins.Call readsLaw(String text) {
        return x -> x.law(text.length());
    }

    // ---- bills

    private static void billIs(String text, int due) {
        Due.is("8 " + text, Due.bill(Cases.people(16), text), due);
    }

    private static void billNumbers() {
        for (char c : "aF".toCharArray()) {
            for (char sign : "+-".toCharArray()) {
                String head = "" + c + sign;
                billIs(head, -1002);
                billIs(head + "0", 1);
                billIs(head + "99999", 1);
                billIs(head + "00000", 1);
                billIs(head + "000000", -2007);
                billIs(head + "999999", -2007);
                billIs(head + "9999999;;", -2007);
                billIs(head + "99999;", -1008);
                billIs(head + "99999x", -1007);
                billIs(head + ";", -1002);
                billIs(head + " 1", -1002);
                billIs(head + "-1", -1002);
            }
        }
        billIs("a+1;b+123456", -2011);
        billIs("a+123456;;", -2007);
        billIs("a+;b+123456", -1002);
    }

    private static void billLines() {
        String twenty = rules(20, "a_");
        billIs(twenty, 20);
        int at = 60;
        for (char c = 'a'; c <= 'p'; c++) {
            billIs(twenty + ";" + c, -4000 - at);
            billIs(twenty + ";" + c + "+1", -4000 - at);
        }
        billIs(twenty + ";F", -4000 - at);
        for (char c : "q`ABEGPf+;_ 0".toCharArray()) {
            boolean canStand = c == 'f';
            billIs(twenty + ";" + c, canStand ? -4000 - at : -1000 - at);
        }
        billIs(twenty + ";", -1000 - at);
        billIs(twenty + "a", -1000 - at + 1);
        billIs(rules(19, "a_") + ";F+1", 20);
        billIs(rules(19, "a_") + ";F", -1000 - 58);
        billIs("a_", 1);
    }

    private static void billUntold() {
        DeadLines x = new DeadLines();
        x.subscriber(0, 0, true);
        x.subscriber(15, 0, true);
        for (char c = 'b'; c < 'p'; c++) {
            Due.is("8 not told, at it", Due.bill(x, "a_;" + c + "_"), -7003);
            Due.is("8 not told, ahead of the end", Due.bill(x, "a_;" + c), -7003);
            Due.is("8 not told, ahead of what can't stand", Due.bill(x, c + "x"), -7000);
        }
        Due.is("8 told", Due.bill(x, "a_;p_"), 2);
        Due.is("8 no subscriber at all", Due.bill(x, "q_"), -1000);
        Due.is("8 none below a", Due.bill(x, "`_"), -1000);
        Due.is("8 a fault ahead of it", Due.bill(x, "a;b_"), -1001);
        Due.is("8 the fund is not told", Due.bill(new DeadLines(), "F+1"), 1);
        Due.is("8 f is a subscriber", Due.bill(new DeadLines(), "f+1"), -7000);
        String twenty = rules(20, "a_");
        Due.is("8 behind 4", Due.bill(x, twenty + ";b_"), -4060);
        Due.is("8 the twentieth", Due.bill(x, rules(19, "a_") + ";b_"), -7057);
        DeadLines y = new DeadLines();
        Due.is("8 none is told", Due.bill(y, rules(20, "a_") + ";b_"), -7000);
    }

    private static void billOfEachByte() {
        String[] texts = {"a+12;F-345;p!;c?", "b*;b^;b_;F+99999;d-0"};
        for (String text : texts) {
            for (int place = 0; place < text.length(); place++) {
                for (int b = 0; b <= LAST_BYTE; b++) {
                    String other = text.substring(0, place) + (char) b + text.substring(place + 1);
                    billBesideModel(other);
                }
                billBesideModel(text.substring(0, place + 1));
            }
        }
        billIs("a_ ", -1002);
        billIs(" a_", -1000);
        billIs("a _", -1001);
        billIs("a_; b_", -1003);
        billIs("a+1 ;b_", -1003);
    }

    private static void billBesideModel(String text) {
        DeadLines x = Cases.people(14);
        Model m = new Model();
        for (int s = 0; s < 14; s++) {
            m.subscriber(s, 0, true);
        }
        x.subscriber(15, 0, true);
        m.subscriber(15, 0, true);
        putModel(m, text);
        Due.is("8 " + text, Due.bill(x, text), m.bill(text.length()));
        for (int what = 0; what < 6; what++) {
            Due.is("8 " + text + ": count " + what, x.count(what), m.count(what));
        }
        for (int s = 0; s < 16; s++) {
            Due.is("8 " + text + ": arrears", x.subscriberIs(s, 4), m.subscriberIs(s, 4));
            Due.is("8 " + text + ": hook", x.subscriberIs(s, 3), m.subscriberIs(s, 3));
        }
    }

    private static void billAtItsLongest() {
        String longest = rules(19, "a+123") + ";a+1234";
        Due.is("8 its length", longest.length(), 120);
        DeadLines x = Cases.people(1);
        Due.is("8 120 bytes", Due.bill(x, longest), 20);
        Due.is("8 all of it", x.subscriberIs(0, 4), 19 * 123 + 1234);
        Due.put(x, longest + "5");
        Due.is("8 a 121st byte can't be asked", x.bill(121), NONE);
        Due.is("8 the tape stays", x.count(8), 140);
        Due.is("8 nothing is done", x.subscriberIs(0, 4), 19 * 123 + 1234);
        Due.is("8 the first 120", x.bill(120), 20);
        Due.is("8 empty then", x.count(8), 0);
        Due.is("8 done", x.subscriberIs(0, 4), 2 * (19 * 123 + 1234));
        billIs(longest.substring(0, 119) + "+", -1119);
        billIs(rules(19, "a+123") + ";F+1234", 20);
        billIs(rules(17, "a+1234") + ";", -1119);
        billIs(rules(17, "a+1234") + ";F", -1120);
    }

    private static void billThatFailsDoesNothing() {
        String head = "a+5;a!;p*;j^;F+9;d_;f?;";
        String[] faulty = {"", "q", "a", "a+", "a+123456", "g_", "g", "F!", "a_ "};
        int at = head.length();
        int[] due = {-1000 - at, -1000 - at, -1001 - at, -1002 - at, -2007 - at, -7000 - at, -7000 - at, -1001 - at,
            -1002 - at};
        for (int i = 0; i < faulty.length; i++) {
            String text = head + faulty[i];
            Twins.readsInVain("8 nothing is done", text, x -> x.bill(text.length()), due[i]);
        }
        String many = "a+5;a!;F+9;p*;" + rules(16, "d_") + ";F+1";
        Twins.readsInVain("8 nothing is done", many, x -> x.bill(many.length()), -4000 - 14 - 16 * 3);
        Twins.emptiesTape("8 empty then", 260, x -> x.bill(120), -1000);
    }

    // ---- codes, numbers that are dialled, epitaphs

    private static void digitsAlone() {
        for (int n = 1; n <= 12; n++) {
            String good = "012345678901".substring(0, n);
            for (int place = 0; place < n; place++) {
                for (int b : new int[] {'/', ':', 0, ' ', 'a', LAST_BYTE, '0' + 128}) {
                    String text = good.substring(0, place) + (char) b + good.substring(place + 1);
                    if (n <= 6) {
                        Twins.readsInVain("9 no digit", text, readsCode(text.length()), -1000 - place);
                    }
                    Twins.readsInVain("26 no digit", text, readsNumber(text.length()), -1000 - place);
                    String two = place + 1 < n ? text.substring(0, n - 1) + 'z' : text;
                    Due.is("26 the first", Due.dialled(new DeadLines(), two, 0), -1000 - place);
                }
            }
        }
        for (char c = '0'; c <= '9'; c++) {
            DeadLines x = new DeadLines();
            Due.is("9 each digit", Due.code(x, 7, "" + c), 1);
            Due.is("26 each digit", Due.dialled(x, c + "0", 0), 7);
            Due.is("26 another one", Due.dialled(x, (char) ('0' + (c - '0' + 1) % 10) + "0", 0), -2);
        }
        for (int n = 1; n <= 6; n++) {
            DeadLines x = new DeadLines();
            Due.is("9 so many", Due.code(x, 0, "987654".substring(0, n)), n);
            Due.is("9 so many digits", x.count(10), n);
            Due.is("9 empty then", x.count(8), 0);
            Due.is("26 all of it", Due.dialled(x, "987654".substring(0, n), 1), 0);
            Due.is("26 all of it", Due.dialled(x, "987654".substring(0, n), 0), 0);
        }
    }

    private static Twins.Call readsCode(int n) {
        return x -> x.code(0, n);
    }

    private static Twins.Call readsNumber(int n) {
        return x -> x.dialled(n, 0);
    }

    private static void lettersAlone() {
        for (int k : new int[] {1, 2, 30}) {
            for (int m : new int[] {1, 2, 30}) {
                String good = "A".repeat(k) + "Z".repeat(m);
                for (int place = 0; place < k + m; place++) {
                    for (int b : new int[] {'@', '[', 'a', 0, ' ', LAST_BYTE, 'A' + 128}) {
                        String text = good.substring(0, place) + (char) b + good.substring(place + 1);
                        DeadLines x = new DeadLines();
                        Due.put(x, text);
                        Due.is("25 no letter", x.epitaph(k, m, place % 2 == 0, m - 1), -1000 - place);
                        Due.is("25 empty then", x.count(8), 0);
                    }
                }
                String bad = "A".repeat(k - 1) + "a".repeat(m + 1);
                Due.is("25 of the key first", Due.epitaph(new DeadLines(), bad.substring(0, k), bad.substring(k), true, 0),
                    -1000 - (k - 1));
                DeadLines y = new DeadLines();
                Due.put(y, good + "a");
                Due.is("25 what is behind is not asked", y.epitaph(k, m, false, 0), 25);
            }
        }
    }
}
