/** The edges of what is reckoned from the tape: cut, heir, busy, cheapest, told, epitaph, check; and of the plans. */
public final class SumsTest {
    private static final int NONE = -1;

    private SumsTest() {
    }

    public static void main(String[] args) {
        cuts();
        heirs();
        busiest();
        laterOnes();
        tariffs();
        tariffsOfLikePence();
        tellings();
        notByALowerOne();
        alphabets();
        longestCode();
        clearPlans();
        freeCodes();
        checks();
        Due.end();
    }

    private static int cut(int bound, int what, int... bytes) {
        DeadLines x = new DeadLines();
        Due.put(x, bytes);
        return x.cut(bytes.length / 2, bound, what);
    }

    private static int heir(int bill, int what, int... bytes) {
        DeadLines x = new DeadLines();
        Due.put(x, bytes);
        return x.heir(bytes.length, bill, what);
    }

    private static int busy(int what, int... bytes) {
        DeadLines x = new DeadLines();
        Due.put(x, bytes);
        return x.busy(bytes.length / 2, what);
    }

    private static int cheapest(int minutes, int what, int... bytes) {
        DeadLines x = new DeadLines();
        Due.put(x, bytes);
        return x.cheapest(bytes.length / 2, minutes, what);
    }

    private static int told(int what, int... bytes) {
        DeadLines x = new DeadLines();
        Due.put(x, bytes);
        return x.told(bytes.length, what);
    }

    private static int[] many(int times, int... bytes) {
        int[] all = new int[times * bytes.length];
        for (int i = 0; i < all.length; i++) {
            all[i] = bytes[i % bytes.length];
        }
        return all;
    }

    private static void cuts() {
        Due.is("20 no more than the bound", cut(7, 0, 9, 7), 9);
        Due.is("20 one more", cut(6, 0, 9, 7), 0);
        Due.is("20 nobody", cut(6, 1, 9, 7), 0);
        Due.is("20 who", cut(7, 1, 9, 7), 1);
        Due.is("20 a bound of 0", cut(0, 1, 255, 1, 3, 0, 4, 0), 6);
        Due.is("20 who costs nothing is not cut", cut(0, 1, 0, 0), 0);
        Due.is("20 most cost, most trouble", cut(255, 0, 255, 255), 255);
        Due.is("20 just too much trouble", cut(254, 0, 255, 255), 0);
        Due.is("20 twelve", cut(3060, 0, many(12, 255, 255)), 3060);
        Due.is("20 twelve, one too few", cut(3059, 0, many(12, 255, 255)), 2805);
        Due.is("20 twelve, the least", cut(3059, 1, many(12, 255, 255)), 2047);
        Due.is("20 the last alone", cut(5, 1, concat(many(11, 1, 6), 200, 5)), 1 << 11);
        Due.is("20 of like ones the least", cut(4, 1, 3, 4, 3, 4, 3, 4), 1);
        Due.is("20 of like ones the least, not the fewest", cut(4, 1, 1, 1, 2, 1, 3, 1, 0, 0), 7);
        Due.is("20 two for one", cut(4, 1, 3, 2, 3, 2, 6, 4), 3);
        Due.is("20 two for one, the other way", cut(4, 1, 6, 4, 3, 2, 3, 2), 1);
        Due.is("20 the most, not the least trouble", cut(9, 1, 5, 1, 6, 9), 2);
    }

    private static int[] concat(int[] head, int... tail) {
        int[] all = java.util.Arrays.copyOf(head, head.length + tail.length);
        System.arraycopy(tail, 0, all, head.length, tail.length);
        return all;
    }

    private static void heirs() {
        Due.is("21 just so", heir(5, 0, 5), 1);
        Due.is("21 one less", heir(4, 0, 5), 0);
        Due.is("21 one more", heir(6, 0, 5), 0);
        Due.is("21 none of them", heir(6, 1, 5), -2);
        Due.is("21 which", heir(5, 1, 5), 1);
        Due.is("21 nothing is a way", heir(0, 0, 5), 1);
        Due.is("21 nothing, the fewest", heir(0, 1, 0, 5), 0);
        Due.is("21 nothing and a sum of 0", heir(0, 0, 0, 5), 2);
        Due.is("21 a sum of 0 is no fewer", heir(5, 1, 0, 5), 2);
        Due.is("21 all ways of nothing", heir(0, 0, many(12, 0)), 4096);
        Due.is("21 all", heir(3060, 0, many(12, 255)), 1);
        Due.is("21 all of them", heir(3060, 1, many(12, 255)), 4095);
        Due.is("21 one short", heir(3059, 1, many(12, 255)), -2);
        Due.is("21 of like ones the least bits", heir(255, 1, many(12, 255)), 1);
        Due.is("21 ways", heir(255, 0, many(12, 255)), 12);
        Due.is("21 the last alone", heir(9, 1, concat(many(11, 3), 9)), 1 << 11);
        Due.is("21 fewest, not the least bits", heir(9, 1, 3, 3, 3, 9), 8);
        Due.is("21 of two and two the least bits", heir(10, 1, 1, 2, 8, 9), 6);
        Due.is("21 both ways", heir(10, 0, 1, 2, 8, 9), 2);
    }

    private static void busiest() {
        Due.is("22 one", busy(0, 7, 1), 1);
        Due.is("22 when", busy(1, 7, 1), 7);
        Due.is("22 one ends as another begins", busy(0, 0, 5, 5, 5), 1);
        Due.is("22 one minute more", busy(0, 0, 6, 5, 5), 2);
        Due.is("22 when both talk", busy(1, 0, 6, 5, 5), 5);
        Due.is("22 the first of like ones", busy(1, 9, 2, 0, 2, 9, 2, 0, 2), 0);
        Due.is("22 told last, first in time", busy(1, 9, 2, 3, 2), 3);
        Due.is("22 told first, first in time", busy(1, 3, 2, 9, 2), 3);
        Due.is("22 twice two", busy(1, 3, 2, 9, 2, 4, 2, 9, 2), 4);
        Due.is("22 ten", busy(0, many(10, 255, 255)), 10);
        Due.is("22 when ten", busy(1, many(10, 255, 255)), 255);
        Due.is("22 at 0", busy(1, many(10, 0, 1)), 0);
        Due.is("22 beyond 255", busy(0, 1, 255, 255, 255), 2);
        Due.is("22 just not", busy(0, 0, 255, 255, 255), 1);
        Due.is("22 no minutes, the first", busy(0, 1, 0, 1, 1), -2);
        Due.is("22 no minutes, the last", busy(1, 1, 1, 1, 0), -2);
        Due.is("22 no minutes, later", busy(105, 1, 1, 1, 0, 1, 1), -2);
        DeadLines x = new DeadLines();
        Due.put(x, 1, 1, 1, 0);
        Due.is("22 what is behind is not asked", x.busy(1, 0), 1);
    }

    private static void laterOnes() {
        for (int later = 0; later <= 20; later++) {
            Due.is("22 just so late", busy(100 + later, 50, Math.max(1, later), 50, 9), later == 0 ? 2 : 1);
            Due.is("22 a minute more", busy(100 + later, 50, later + 1, 50, 9), 2);
            Due.is("22 just so late behind its beginning", busy(100 + later, 50, later + 4, 54, 9), 1);
            Due.is("22 a minute more behind it", busy(100 + later, 50, later + 5, 54, 9), 2);
        }
        Due.is("22 one", busy(100, 255, 255), 1);
        Due.is("22 ten at once", busy(100, many(10, 255, 255)), 10);
        Due.is("22 ten at once, later", busy(120, many(10, 255, 255)), 10);
        Due.is("22 ten in a row", busy(120, many(10, 0, 2)), 1);
        Due.is("22 ten in a row, too late", busy(117, many(10, 0, 2)), 2);
        // Of two that begin at once the one told first has the circuit first.
        Due.is("22 as told", busy(101, 0, 1, 0, 9), 1);
        Due.is("22 as told the other way", busy(101, 0, 9, 0, 1), 2);
        Due.is("22 in the row of beginnings", busy(101, 1, 1, 0, 2), 1);
        Due.is("22 in the row of beginnings, too", busy(101, 1, 9, 0, 2), 1);
        Due.is("22 each keeps its minutes", busy(100, 1, 9, 0, 1, 3, 1), 2);
        Due.is("22 each keeps its minutes, too", busy(100, 1, 1, 0, 1, 3, 1), 1);
        Due.is("22 told backwards", busy(100, 9, 1, 6, 3, 3, 3, 0, 3), 1);
        Due.is("22 told backwards, one too long", busy(100, 9, 1, 6, 3, 3, 4, 0, 3), 2);
        // A later one waits behind one that waits.
        Due.is("22 waiting adds up", busy(104, 0, 4, 1, 4, 2, 4), 2);
        Due.is("22 and goes by", busy(106, 0, 4, 1, 4, 2, 4), 1);
        // The circuit that is free first is taken.
        Due.is("22 the one that is free first", busy(100, 0, 9, 0, 2, 2, 1, 3, 1), 2);
    }

    private static void tariffs() {
        Due.is("23 a minute", cheapest(1, 100, 1, 1), 1);
        Due.is("23 most pence", cheapest(240, 100, 1, 255), 61200);
        Due.is("23 how often then", cheapest(240, 0, 1, 255), 240);
        Due.is("23 sixty", cheapest(240, 0, 60, 255), 4);
        Due.is("23 one more", cheapest(181, 0, 60, 1), 4);
        Due.is("23 just so", cheapest(180, 0, 60, 1), 3);
        Due.is("23 at least so many", cheapest(1, 100, 60, 9), 9);
        for (int bad = 0; bad < 5; bad++) {
            for (int[] tariff : new int[][] {{0, 1}, {61, 1}, {255, 1}, {1, 0}, {60, 0}, {0, 0}}) {
                int[] bytes = many(5, 60, 255);
                bytes[2 * bad] = tariff[0];
                bytes[2 * bad + 1] = tariff[1];
                Due.is("23 no such tariff: pence", cheapest(9, 100, bytes), -2);
                Due.is("23 no such tariff: how often", cheapest(9, 0, bytes), -2);
            }
        }
        Due.is("23 such ones", cheapest(9, 100, many(5, 60, 255)), 255);
        DeadLines x = new DeadLines();
        Due.put(x, 60, 1, 61, 1);
        Due.is("23 what is behind is not asked", x.cheapest(1, 1, 100), 1);
        for (int n = 1; n <= 5; n++) {
            for (int what = 0; what < n; what++) {
                Due.is("23 each tariff", cheapest(7, what, many(n, 7, 3)), what == 0 ? 1 : 0);
            }
        }
    }

    private static void tariffsOfLikePence() {
        // 20 minutes for 20 pence: 4 of 5, or 2 of 10, or 1 of 20.
        int[] bytes = {20, 20, 10, 10, 5, 5};
        int[] back = {5, 5, 10, 10, 20, 20};
        Due.is("23 most of the first", cheapest(20, 0, bytes), 1);
        Due.is("23 then none of the second", cheapest(20, 1, bytes), 0);
        Due.is("23 most of the first", cheapest(20, 0, back), 4);
        Due.is("23 then none of the last", cheapest(20, 2, back), 0);
        Due.is("23 most of the first in 35", cheapest(35, 0, bytes), 1);
        Due.is("23 then of the second", cheapest(35, 1, bytes), 1);
        Due.is("23 then of the third", cheapest(35, 2, bytes), 1);
        // The first is dearer for one, so none of it.
        Due.is("23 not if it is dearer", cheapest(10, 0, 5, 6, 10, 11, 10, 11), 0);
        Due.is("23 of like ones the second", cheapest(10, 1, 5, 6, 10, 11, 10, 11), 1);
        Due.is("23 not the third", cheapest(10, 2, 5, 6, 10, 11, 10, 11), 0);
        // More minutes than asked may cost as much.
        Due.is("23 more of the first, though fewer would do", cheapest(3, 0, 2, 2, 3, 4), 2);
        Due.is("23 of the last", cheapest(7, 4, 60, 255, 60, 255, 60, 255, 60, 255, 1, 36), 7);
        Due.is("23 of the first", cheapest(8, 0, 60, 255, 60, 255, 60, 255, 60, 255, 1, 36), 1);
    }

    private static void tellings() {
        Due.is("24 two", told(0, 0, 0), 1);
        Due.is("24 the only one", told(1, 0, 0), 1);
        Due.is("24 of the first one none is asked", told(0, 255, 0), 1);
        Due.is("24 a row of sixteen", told(0, 0, 0, 1, 2, 3, 4, 5, 6, 7, 8, 9, 10, 11, 12, 13, 14), 15);
        Due.is("24 rings the next", told(1, 0, 0, 1, 2, 3, 4, 5, 6, 7, 8, 9, 10, 11, 12, 13, 14), 1);
        Due.is("24 sixteen by the first", told(0, many(16, 0)), 15);
        Due.is("24 of like ones the lowest", told(1, many(16, 0)), 1);
        Due.is("24 whose own take longest", told(1, 0, 0, 0, 2), 2);
        Due.is("24 in two", told(0, 0, 0, 0, 2), 2);
        Due.is("24 the last of them", told(1, 0, 0, 0, 0, 3, 2, 5), 2);
        // Not how many his own are, but how long they take.
        Due.is("24 three in a row against three by one", told(1, 0, 0, 0, 1, 1, 1, 2, 6, 7), 1);
        Due.is("24 longest is not most", told(1, 0, 0, 0, 1, 1, 2, 5, 6), 2);
        Due.is("24 twice as many each minute", told(0, 0, 0, 0, 1, 0, 1, 2, 3), 3);
        Due.is("24 sixteen in four", told(0, 0, 0, 0, 1, 0, 1, 2, 3, 0, 1, 2, 3, 4, 5, 6, 7), 4);
        // The first ring goes to him although he does not come first.
        Due.is("24 the highest", told(1, 0, 0, 0, 0, 0, 0, 5), 5);
    }

    private static void notByALowerOne() {
        for (int n = 2; n <= 16; n++) {
            for (int i = 1; i < n; i++) {
                for (int what = 0; what < 2; what++) {
                    int[] bytes = many(n, 0);
                    bytes[i] = i - 1;
                    Due.is("24 by the one below", told(what, bytes) > 0, true);
                    bytes[i] = i;
                    Due.is("24 by himself", told(what, bytes), -2);
                    bytes[i] = i + 1;
                    Due.is("24 by the one above", told(what, bytes), -2);
                    bytes[i] = 255;
                    Due.is("24 by nobody", told(what, bytes), -2);
                }
            }
        }
        DeadLines x = new DeadLines();
        Due.put(x, 0, 0, 9);
        Due.is("24 what is behind is not asked", x.told(2, 0), 1);
    }

    private static void alphabets() {
        String plain = "ABCDEFGHIJKLMNOPQRSTUVWXYZ";
        String[] keys = {"A", "Z", "ZZZ", "ZYXWVUTSRQPONMLKJIHGFEDCBA", "QWERTYUIOPASDFGHJKLZXCVBNMQWER", "AZAZ"};
        String[] laid = {
            plain, "ZABCDEFGHIJKLMNOPQRSTUVWXY", "ZABCDEFGHIJKLMNOPQRSTUVWXY", "ZYXWVUTSRQPONMLKJIHGFEDCBA",
            "QWERTYUIOPASDFGHJKLZXCVBNM", "AZBCDEFGHIJKLMNOPQRSTUVWXY"
        };
        for (int i = 0; i < keys.length; i++) {
            DeadLines x = new DeadLines();
            for (int place = 0; place < 26; place++) {
                Due.is("25 ciphered by " + keys[i], Due.epitaph(x, keys[i], plain, false, place),
                    laid[i].charAt(place) - 'A');
                Due.is("25 read back by " + keys[i], Due.epitaph(x, keys[i], laid[i], true, place), place);
            }
        }
        Due.is("25 the first place", Due.epitaph(new DeadLines(), "BA", "AZ", false, 0), 1);
        Due.is("25 the last place", Due.epitaph(new DeadLines(), "BA", "AZ", false, 1), 25);
    }

    private static void longestCode() {
        DeadLines x = new DeadLines();
        Due.code(x, 7, "1");
        Due.code(x, 6, "12");
        Due.code(x, 5, "123456");
        Due.code(x, 1, "12");
        Due.is("26 the longest", Due.dialled(x, "123456", 0), 5);
        Due.is("26 nothing is left", Due.dialled(x, "123456", 1), 0);
        Due.is("26 one short of it, the lowest of like ones", Due.dialled(x, "12345", 0), 1);
        Due.is("26 left", Due.dialled(x, "12345", 1), 3);
        Due.is("26 the shortest", Due.dialled(x, "1", 0), 7);
        Due.is("26 the shortest with more", Due.dialled(x, "130000000000", 0), 7);
        Due.is("26 eleven are left", Due.dialled(x, "130000000000", 1), 11);
        Due.is("26 none", Due.dialled(x, "21", 0), -2);
        Due.is("26 none", Due.dialled(x, "21", 1), -2);
        Due.code(x, 5, "9");
        Due.is("9 in place of the one before", Due.dialled(x, "123456", 0), 1);
        Due.is("9 the new one", Due.dialled(x, "9", 0), 5);
        Due.is("9 its digits", x.count(15), 1);
        Due.is("33 those with one", x.count(10), NONE);
    }

    private static int clearOf(String... codes) {
        DeadLines x = new DeadLines();
        for (int e = 0; e < codes.length; e++) {
            Due.code(x, codes.length - 1 - e, codes[e]);
        }
        return x.clear();
    }

    private static void clearPlans() {
        Due.is("27 no code", clearOf(), 1);
        Due.is("27 one", clearOf("1"), 1);
        Due.is("27 two", clearOf("1", "2"), 1);
        Due.is("27 like ones", clearOf("12", "12"), 0);
        Due.is("27 begins with it", clearOf("12", "1"), 0);
        Due.is("27 the other way", clearOf("1", "12"), 0);
        Due.is("27 only the last digit is another", clearOf("123456", "123457"), 1);
        Due.is("27 only the last digit is more", clearOf("123456", "12345"), 0);
        Due.is("27 it ends with it", clearOf("1", "21"), 1);
        Due.is("27 a 0 is a digit", clearOf("0", "00"), 0);
        Due.is("27 a 0 ahead", clearOf("1", "01"), 1);
        Due.is("27 eight", clearOf("0", "1", "2", "3", "4", "5", "6", "7"), 1);
        Due.is("27 the first and the last of eight", clearOf("0", "1", "2", "3", "4", "5", "6", "07"), 0);
    }

    private static void freeCodes() {
        DeadLines x = new DeadLines();
        for (int k = 1; k <= 3; k++) {
            Due.is("28 none there", x.freeCode(k), 0);
        }
        for (int e = 0; e < 8; e++) {
            Due.code(x, e, "" + e);
            for (int k = 1, tens = 1; k <= 3; k++, tens *= 10) {
                Due.is("28 the least", x.freeCode(k), (e + 1) * tens);
            }
        }
        DeadLines y = new DeadLines();
        Due.code(y, 0, "000000");
        Due.is("28 one that the code begins with is none", y.freeCode(1), 1);
        Due.is("28 nor of two", y.freeCode(2), 1);
        Due.is("28 nor of three", y.freeCode(3), 1);
        Due.code(y, 1, "001");
        Due.is("28 of three", y.freeCode(3), 2);
        Due.is("28 of two", y.freeCode(2), 1);
        Due.code(y, 2, "01");
        Due.is("28 of two, the next", y.freeCode(2), 2);
        Due.is("28 of three, as before", y.freeCode(3), 2);
        Due.code(y, 3, "0");
        for (int k = 1; k <= 3; k++) {
            Due.is("28 not clear", y.freeCode(k), -2);
        }
        Due.is("28 no such k, though not clear", y.freeCode(0), NONE);
        Due.is("28 no such k, though not clear", y.freeCode(4), NONE);
    }

    private static void checks() {
        int[] right = {255, 0, 1, 255, 0, 0, 0, 0, 0, 0, 0, 0, 0, 0, 999999 % 256, 0};
        for (int n = 0; n <= 16; n++) {
            DeadLines x = owing();
            Due.put(x, right);
            Due.is("32 right", x.check(n), NONE);
            for (int wrong = 0; wrong < 16; wrong++) {
                int[] other = right.clone();
                other[wrong] ^= 128;
                Due.put(x, other);
                Due.is("32 the first that is not so, if it is asked", x.check(n), wrong < n ? wrong : NONE);
                other[15] ^= 1;
                Due.put(x, other);
                int due = wrong < n ? wrong : n == 16 ? 15 : NONE;
                Due.is("32 not the last", x.check(n), due);
            }
            Due.is("32 empty then", x.count(8), 0);
        }
    }

    /** All but the last one are told; some owe something. */
    private static DeadLines owing() {
        DeadLines x = Cases.people(15);
        Due.bill(x, "a+255;b+256;c+257;d+511;e+512;" + "o+99999;".repeat(10) + "o+9");
        Due.is("8 the most", x.subscriberIs(14, 4), 999999);
        return x;
    }
}
