import java.nio.charset.StandardCharsets;

/**
 * The edges of THE TEXT and of LANDS: the indented text of "Terms" 1, and promises 7 to 10. Each
 * test's remark quotes the sentence that it holds.
 */
public final class TextEdgesTest {
    private static final Due DUE = new Due("TextEdgesTest");
    private static final int MIN = Due.MIN, MAX = Due.MAX;
    private static final int NONE = Due.NONE, BAD = Due.BAD, FULL = Due.FULL;
    private static final String DIGITS = "0123456789", PARTS = "whikma!(";
    /** Nine clauses of 90 bytes, each with its ; behind it. */
    private static final String NINE = "out 1 w=1;".repeat(9);

    public static void main(String[] args) {
        DUE.runAll(TextEdgesTest.class);
    }

    private static int answer(String text) {
        return Due.land(new FireFromFire(), text);
    }

    private static void isLand(String text) {
        DUE.is("land of '" + text + "'", answer(text), 0);
    }

    private static void fault(String text, int place) {
        DUE.is("land of '" + text + "'", answer(text), -10 - place);
    }

    /** Of all 256 bytes just these may stand behind a beginning: with another one it is the FAULT. */
    private static void next(String begin, String may) {
        int place = begin.length();
        for (char c = 0; c < 256; c++) {
            int got = answer(begin + c);
            if (may.indexOf(c) < 0) {
                DUE.is("land of '" + begin + "' and byte " + (int) c, got, -10 - place);
            } else {
                boolean isNoFault = got == 0 || got == -10 - place - 1;
                DUE.is("land of '" + begin + c + "' goes on, for it", isNoFault ? 1 : got, 1);
            }
        }
    }

    // terms 1: "CLAUSES, 1 to 10": at least one
    static void termsClausesOneAtLeast() {
        fault("", 0);
        isLand("out 1 w=1");
        isLand("next 0 1 1");
        fault(";", 0);
        fault("out 1 w=1;", 10);
        fault("out 1 w=1;;out 1 w=1", 10);
    }

    // terms 1: "CLAUSES, 1 to 10": ten at most
    static void termsClausesTenAtMost() {
        isLand(NINE + "out 1 w=1");
        isLand(NINE + "need 1 w=1");
        fault(NINE, 90);
        fault(NINE + "out 1 w=1;", 99);
        FireFromFire x = Due.village(1, 5, 1);
        DUE.is("ten", Due.land(x, NINE + "out 2 w=1"), 0);
        DUE.is("all ten count", x.told(0, 1, 0), 11);
        next(NINE + "out 1 w=1", DIGITS + "&|");
    }

    // terms 1: "with ; between"
    static void termsClausesSemicolonBetween() {
        isLand("out 1 w=1;burn 1 w=1");
        fault("out 1 w=1burn 1 w=1", 9);
        fault("out 1 w=1 ;burn 1 w=1", 9);
        fault("out 1 w=1; burn 1 w=1", 10);
        fault("out 1 w=1,burn 1 w=1", 9);
        fault("next 0 1 1 ;burn 1 w=1", 10);
        isLand("next 0 1 1;burn 1 w=1");
    }

    // terms 1: "out n E; burn n E; horn n E; need n E; next a b n": their words
    static void termsWords() {
        next("", "obhn");
        next("o", "u");
        next("ou", "t");
        next("b", "u");
        next("bu", "r");
        next("bur", "n");
        next("h", "o");
        next("ho", "r");
        next("hor", "n");
        next("n", "e");
        next("ne", "ex");
        next("nee", "d");
        next("nex", "t");
        next("out 5 w<1;", "obhn");
        next("next 0 1 1;", "obhn");
    }

    // terms 1: "one blank ahead of each part behind the word"
    static void termsOneBlank() {
        for (String word : new String[] {"out", "burn", "horn", "need", "next"}) {
            next(word, " ");
        }
        fault("out  5 w<1", 4);
        fault("out 5  w<1", 6);
        fault("burn  5 w<1", 5);
        fault("horn 5  w<1", 7);
        fault("need5 w<1", 4);
        fault("out 5w<1", 5);
        fault("next0 1 1", 4);
        fault("next  0 1 1", 5);
        fault("next 01 1", 6);
        fault("next 0  1 1", 7);
        fault("next 0 11", 8);
        fault("next 0 1  1", 9);
        fault(" out 5 w<1", 0);
        fault("out 5 w <1", 7);
        fault("out 5 w< 1", 8);
        fault("out 5 w<1 &w<1", 9);
        fault("out 5 (w<1 )", 10);
        fault("out 5 w<1 ", 9);
        next("next 0", " ");
        next("next 0 1", " ");
    }

    // terms 1: "a, b a figure 0 .. 2"
    static void termsFigures() {
        next("next ", "012");
        next("next 0 ", "012");
        isLand("next 0 2 1");
        isLand("next 2 0 1");
        fault("next 3 0 1", 5);
        fault("next 0 3 1", 7);
        fault("next 00 0 1", 6);
    }

    // terms 1: "n 1 or 2 digits"
    static void termsNOneOrTwoDigits() {
        next("out ", DIGITS);
        next("out 0", DIGITS + " ");
        next("out 99", " ");
        next("burn ", DIGITS);
        next("horn 00", " ");
        next("need 9", DIGITS + " ");
        next("next 0 1 ", DIGITS);
        next("next 0 1 0", DIGITS + ";");
        next("next 0 1 99", ";");
        fault("out -1 w<1", 4);
        fault("out 100 w<1", 6);
        fault("next 0 1 100", 11);
    }

    // terms 1: "n 1 or 2 digits": what they tell
    static void termsNFrom0To99() {
        String[] digits = {"0", "00", "1", "09", "9", "10", "99"};
        int[] dues = {0, 0, 1, 9, 9, 10, 99};
        for (int k = 0; k < dues.length; k++) {
            FireFromFire x = Due.village(1, 5, 1, "out " + digits[k] + " w<3;next 0 1 " + digits[k]);
            DUE.is("out of " + digits[k], x.told(0, 0, 0), dues[k]);
            DUE.is("next of " + digits[k], x.follows(0, 1), Math.min(10, dues[k]));
        }
    }

    // terms 1: "E: T or T|E. T: F or F&T. F: !F, (E), or a TEST"
    static void termsExpressions() {
        next("out 5 ", PARTS);
        next("out 5 w<1", DIGITS + "&|;");
        next("out 5 w<12", "&|;");
        next("out 5 w<1&", PARTS);
        next("out 5 w<1|", PARTS);
        next("out 5 !", PARTS);
        next("out 5 (", PARTS);
        next("out 5 (w<1", DIGITS + "&|)");
        next("out 5 (w<12", "&|)");
        next("out 5 (w<12)", "&|;");
        next("out 5 (w<12&", PARTS);
        next("out 5 !(w<12)", "&|;");
        fault("out 5 ()", 7);
        fault("out 5 (w<1))", 11);
        fault("out 5 w<1)", 9);
        fault("out 5 w<1!w<1", 9);
        fault("out 5 w<1(w<1)", 9);
    }

    // terms 1: "T: F or F&T", "E: T or T|E": & is within |, and ! is of one F alone
    static void termsExpressionsWithin() {
        String[] yes = {"w=0|w=0&w=1", "w=1&w=0|w=0", "w=0|w=1|w=1", "w=1|w=1|w=0", "!w=1&w=0",
            "!w=1|w=1", "w=0&!w=1", "!(w=1&w=0)", "!(w=1|w=1)", "!!w=0", "!w=0|w=0", "w=0&w=0&w=0",
            "(w=0|w=1)&w=0", "w=0&(w=1|w=0)", "((w=0))&((w=0))"};
        String[] no = {"(w=0|w=0)&w=1", "w=1&(w=0|w=0)", "w=1|w=1|w=1", "!w=0&w=1", "!w=0|w=1",
            "w=0&!w=0", "!(w=0&w=0)", "!(w=1|w=0)", "!!w=1", "w=0&w=0&w=1", "w=1&w=0&w=0",
            "!(w=0)", "!(!w=1)"};
        for (String e : yes) {
            DUE.is(e, Due.village(1, 5, 1, "need 7 " + e).told(0, 0, 3), 7);
        }
        for (String e : no) {
            DUE.is(e, Due.village(1, 5, 1, "need 7 " + e).told(0, 0, 3), 0);
        }
    }

    // terms 1: "a letter, < or = or >, a number (1 or 2 digits)"
    static void termsTests() {
        for (char letter : "whikma".toCharArray()) {
            next("out 5 " + letter, "<=>");
            for (char sign : "<=>".toCharArray()) {
                isLand("out 5 " + letter + sign + "0");
                isLand("out 5 " + letter + sign + "99");
                fault("out 5 " + letter + sign, 8);
                fault("out 5 " + letter + sign + "100", 10);
                fault("out 5 " + letter + sign + "=1", 8);
            }
        }
        next("out 5 w<", DIGITS);
    }

    /** All three tests of a letter, which stands for a value, against a number. */
    private static void tests(FireFromFire x, String letter, int value, int n, int house, int weather) {
        String[] signs = {"<", "=", ">"};
        boolean[] dues = {value < n, value == n, value > n};
        for (int k = 0; k < 3; k++) {
            String test = letter + signs[k] + n;
            DUE.is("land of " + test, Due.land(x, "need 1 " + test) >= 0 ? 1 : 0, 1);
            DUE.is(test + " of " + value, x.told(house, weather, 3), dues[k] ? 1 : 0);
        }
    }

    // terms 1: "w the WEATHER of the HOUR"
    static void termsLetterW() {
        for (int w = 0; w <= 2; w++) {
            for (int n = Math.max(0, w - 1); n <= w + 1; n++) {
                tests(Due.village(1, 5, 1), "w", w, n, 0, w);
            }
        }
    }

    // terms 1: "h the HOUR modulo 24"
    static void termsLetterH() {
        int[] hours = {0, 1, 22, 23, 24, 25, 47, 48, 240};
        for (int hour : hours) {
            int h = hour % 24;
            for (int n = Math.max(0, h - 1); n <= h + 1; n++) {
                FireFromFire x = Due.village(1, 5, 1);
                Due.go(x, 0, hour);
                tests(x, "h", h, n, 0, 0);
            }
            FireFromFire x = Due.village(1, 5, 1);
            Due.go(x, 0, hour);
            tests(x, "h", h, 24, 0, 0);
        }
    }

    // terms 1: "i the HOUSE's number"
    static void termsLetterI() {
        for (int i = 0; i <= 5; i++) {
            for (int n = Math.max(0, i - 1); n <= i + 1; n++) {
                tests(Due.village(6, 9, 1), "i", i, n, i, 0);
            }
        }
    }

    // terms 1: "k the KIND of its KEEPER"
    static void termsLetterK() {
        for (int k = 0; k <= 6; k++) {
            for (int n = Math.max(0, k - 1); n <= k + 1; n++) {
                FireFromFire x = Due.village(2, 9, 1);
                x.keeper(1, k, 8, 0);
                tests(x, "k", k, n, 1, 0);
            }
        }
    }

    // terms 1: "m its WOOD"
    static void termsLetterM() {
        for (int m : new int[] {0, 1, 9, 10, 98, 99}) {
            for (int n = Math.max(0, m - 1); n <= Math.min(99, m + 1); n++) {
                FireFromFire x = Due.village(2, 50, 1);
                x.wood(1, m);
                tests(x, "m", m, n, 1, 0);
            }
        }
    }

    // terms 1: "a how many HOUSES are ALIGHT"
    static void termsLetterA() {
        int[] sets = {0, 0b100000, 0b100001, 0b010101, 0b110110, 0b011111, 0b111111};
        for (int a = 0; a <= 6; a++) {
            for (int n = Math.max(0, a - 1); n <= a + 1; n++) {
                tests(Due.village(6, 9, sets[a]), "a", a, n, 3, 0);
            }
        }
    }

    // terms 1: "m and a as the HOUR begins": not as wood and fires are when later houses' turn comes
    static void termsAsTheHourBegins() {
        FireFromFire x = Due.village(3, 5, 0b111, "burn 1 a=3;burn 3 a=2;burn 4 a=1");
        DUE.is("two go out as the hour goes", x.go(0, 0b011), 0b100);
        DUE.is("the third burns by three alight", x.of(2, 0), 4);
        FireFromFire y = Due.village(2, 5, 0b01, "burn 1 i=1;horn 9 m=5&h=2");
        y.way(0, 1, 2);
        y.keeper(1, 1, 0, 0);
        Due.go(y, 0, 2);
        y.light(1, true);
        y.go(0, 0);
        DUE.is("its wood burns in the hour", y.of(1, 0), 4);
        DUE.is("its horn holds by the wood as it began", y.of(1, 4), 2);
    }

    // terms 1: "A ( or ! within 4 others is none": four and five of them
    static void termsNestedAlike() {
        isLand("out 5 ((((w<1))))");
        next("out 5 ((((", "whikma");
        next("out 5 !!!!", "whikma");
        next("out 5 (((", PARTS);
        next("out 5 !!!", PARTS);
        isLand("out 5 !!!!w<1");
        fault("out 5 (((((w<1)))))", 10);
        fault("out 5 !!!!!w<1", 10);
    }

    // terms 1: "A ( or ! within 4 others is none": of both sorts
    static void termsNestedUnlike() {
        for (int bits = 0; bits < 16; bits++) {
            StringBuilder begin = new StringBuilder("out 5 ");
            StringBuilder end = new StringBuilder();
            for (int k = 0; k < 4; k++) {
                boolean isNot = (bits >> k & 1) != 0;
                begin.append(isNot ? '!' : '(');
                end.append(isNot ? "" : ")");
            }
            isLand(begin + "w<1" + end);
            fault(begin + "!w<1" + end, 10);
            fault(begin + "(w<1)" + end, 10);
        }
    }

    // terms 1: "A ( or ! within 4 others is none": those that have ended don't count
    static void termsNestedBehind() {
        isLand("out 5 ((((w<1))))&((((w<1))))|!!!!w<1");
        isLand("out 5 (((!w<1)))&(((!w<1|!w<2)))");
        isLand("out 5 (((w<1)&(w<1)&!w<1))");
        fault("out 5 ((((w<1))))&(((((w<1)))))", 22);
        fault("out 5 !!!!w<1&!!!!!w<1", 18);
        fault("out 5 ((((w<1&(w<1)))))", 14);
        fault("out 5 ((((w<1&w<1|!w<1))))", 18);
        fault("out 5 (((((", 10);
        isLand("out 5 ((((w<1))));out 5 ((((w<1))))");
    }

    // terms 1: "The FAULT: the place of the first byte with which none begins so"
    static void termsFaultFirstByte() {
        fault("x", 0);
        fault("out 5 w?1", 7);
        fault("out 5 w?1;x", 7);
        fault("need 1 w=1;need 1 x=1;need 1 y=1", 18);
        fault("\u0000", 0);
        fault("\u00ff", 0);
        fault("out 5 w<1\u0000", 9);
        fault(NINE + "out 1 w=1" + "x", 99);
    }

    // terms 1: "(the end of THE TEXT, if it ends too early)"
    static void termsFaultEndOfText() {
        String text = "out 12 !(w<10|h>1&!m=2);next 0 1 10";
        for (int end = 0; end < text.length(); end++) {
            String begin = text.substring(0, end);
            boolean isEnded = end == 23 || end == 34;
            if (isEnded) {
                isLand(begin);
            } else {
                fault(begin, end);
            }
        }
        isLand(text);
    }

    // terms 1: "THE TEXT (bytes, 100 at most)": a LAND of 100, a FAULT behind 100
    static void termsText100Bytes() {
        String land = NINE + "out 1 w=12";
        DUE.is("bytes", land.length(), 100);
        isLand(land);
        fault(NINE + "out 1 w=1&", 100);
    }

    // terms 1: "The newest LAND holds"
    static void termsNewestLandHolds() {
        FireFromFire x = Due.village(1, 5, 1);
        for (int n = 0; n < 5; n++) {
            DUE.is("land " + n, Due.land(x, "need " + (n + 1) + " w<3;next 0 1 " + (9 - n)), n);
            DUE.is("need by " + n, x.told(0, 0, 3), n + 1);
            DUE.is("next by " + n, x.follows(0, 1), 9 - n);
        }
        FireFromFire y = Due.village(1, 5, 1, "need 1 w<3;out 5 w<3;next 0 1 4");
        Due.land(y, "burn 2 w<3");
        DUE.is("nothing is left of the one ahead: need", y.told(0, 0, 3), 0);
        DUE.is("out", y.told(0, 0, 0), 0);
        DUE.is("follows", y.follows(0, 1), 0);
    }

    // terms 1: "OUT ..: the n of all out whose E holds, together, of a hundred (100 at most)"
    static void termsOut100AtMost() {
        told("out 99 w<3", 0, 99);
        told("out 99 w<3;out 0 w<3", 0, 99);
        told("out 99 w<3;out 1 w<3", 0, 100);
        told("out 99 w<3;out 2 w<3", 0, 100);
        told("out 99 w<3;out 99 w<3;out 99 w<3", 0, 100);
        told("out 99 w<3;out 99 w=1", 0, 99);
        told("out 0 w<3", 0, 0);
        told("out 9 w>2", 0, 0);
    }

    // terms 1: "BURN, HORN, NEED: likewise (99 at most each)"
    static void termsBurnHornNeed99AtMost() {
        String[] words = {"out", "burn", "horn", "need"};
        for (int what = 1; what <= 3; what++) {
            String word = words[what];
            told(word + " 98 w<3", what, 98);
            told(word + " 98 w<3;" + word + " 1 w<3", what, 99);
            told(word + " 98 w<3;" + word + " 2 w<3", what, 99);
            told(word + " 99 w<3;" + word + " 1 w<3", what, 99);
            told(word + " 99 w<3;" + word + " 99 w<3", what, 99);
            told(word + " 40 w<3;" + word + " 41 w=1;" + word + " 42 w=0", what, 82);
            told(word + " 0 w<3", what, 0);
        }
    }

    // terms 1: "the n of all out whose E holds", of no other word
    static void termsOfItsWordAlone() {
        String land = "out 1 w<3;burn 2 w<3;horn 4 w<3;need 8 w<3;next 0 1 9;out 16 w<3";
        told(land, 0, 17);
        told(land, 1, 2);
        told(land, 2, 4);
        told(land, 3, 8);
    }

    private static void told(String land, int what, int due) {
        FireFromFire x = Due.village(1, 5, 1, land);
        DUE.is("told(0, 0, " + what + ") by " + land, x.told(0, 0, what), due);
    }

    private static void follows(String land, int... dues) {
        FireFromFire x = new FireFromFire();
        DUE.is("land of " + land, Due.land(x, land), 0);
        for (int k = 0; k < 9; k++) {
            DUE.is("follows(" + k / 3 + ", " + k % 3 + ") by " + land, x.follows(k / 3, k % 3), dues[k]);
        }
    }

    // terms 1: "(0 without)", "a itself what is left"
    static void termsFollowsWithout() {
        follows("need 1 w<3", 10, 0, 0, 0, 10, 0, 0, 0, 10);
        follows("next 1 2 3", 10, 0, 0, 0, 7, 3, 0, 0, 10);
        follows("next 2 0 10", 10, 0, 0, 0, 10, 0, 10, 0, 0);
        follows("next 0 1 0", 10, 0, 0, 0, 10, 0, 0, 0, 10);
    }

    // terms 1: "the n of the last such next a b n"
    static void termsFollowsTheLast() {
        follows("next 0 1 3;next 0 1 5", 5, 5, 0, 0, 10, 0, 0, 0, 10);
        follows("next 0 1 5;next 0 1 3", 7, 3, 0, 0, 10, 0, 0, 0, 10);
        follows("next 0 1 5;next 0 1 0", 10, 0, 0, 0, 10, 0, 0, 0, 10);
        follows("next 0 1 5;next 1 0 3;next 0 2 1", 4, 5, 1, 3, 7, 0, 0, 0, 10);
    }

    // terms 1: "for b other than a": next a a n tells nothing
    static void termsFollowsOfItself() {
        follows("next 0 0 5;next 1 1 0;next 2 2 99", 10, 0, 0, 0, 10, 0, 0, 0, 10);
        follows("next 0 0 5;next 0 1 8", 2, 8, 0, 0, 10, 0, 0, 0, 10);
    }

    // terms 1: "by numbers, .. but no more than is left of ten"
    static void termsFollowsNoMoreThanIsLeft() {
        follows("next 0 1 9;next 0 2 1", 0, 9, 1, 0, 10, 0, 0, 0, 10);
        follows("next 0 1 9;next 0 2 2", 0, 9, 1, 0, 10, 0, 0, 0, 10);
        follows("next 0 2 9;next 0 1 2", 0, 2, 8, 0, 10, 0, 0, 0, 10);
        follows("next 1 0 10;next 1 2 1", 10, 0, 0, 10, 0, 0, 0, 0, 10);
        follows("next 1 2 99;next 1 0 4", 10, 0, 0, 4, 0, 6, 0, 0, 10);
        follows("next 2 0 11;next 2 1 11", 10, 0, 0, 0, 10, 0, 10, 0, 0);
        follows("next 2 1 99", 10, 0, 0, 0, 10, 0, 0, 10, 0);
        follows("next 0 1 4;next 0 2 5", 1, 4, 5, 0, 10, 0, 0, 0, 10);
    }

    // promise 7: "(n 0 .. 4)", "BAD"
    static void promise7Bad() {
        FireFromFire x = new FireFromFire();
        DUE.is("feed(1, 0)", x.feed(1, 0), 0);
        DUE.is("feed(1, 4)", x.feed(1, 4), 4);
        DUE.each("feed(1, n)", BAD, n -> x.feed(1, n), -1, 5, MIN, MAX);
        DUE.is("bytes", x.count(3), 4);
    }

    // promise 7: "The n lowest bytes of a number, the highest first"
    static void promise7HighestFirst() {
        int burn = 'b' << 24 | 'u' << 16 | 'r' << 8 | 'n';
        for (int n = 0; n <= 4; n++) {
            FireFromFire x = Due.village(1, 5, 1);
            Due.feed(x, "burn".substring(0, 4 - n));
            DUE.is("feed of the last " + n, x.feed(burn, n), 4);
            DUE.is("land", Due.land(x, " 7 w<3"), 0);
            DUE.is("burn", x.told(0, 0, 1), 7);
        }
    }

    // promise 7: bytes are 0 .. 255, also of a number below 0
    static void promise7AllBytes() {
        for (int c = 0; c < 256; c++) {
            FireFromFire x = new FireFromFire();
            Due.feed(x, "out 5 w<1");
            DUE.is("feed of byte " + c, x.feed(c | 0xffffff00, 1), 10);
            boolean isDigit = c >= '0' && c <= '9';
            boolean isSign = c == '&' || c == '|' || c == ';';
            DUE.is("land", x.land(), isDigit ? 0 : isSign ? -20 : -19);
        }
    }

    private static FireFromFire withBytes(int n) {
        FireFromFire x = new FireFromFire();
        Due.feed(x, "x".repeat(n));
        return x;
    }

    // promise 7: "FULL"; terms 1: "(bytes, 100 at most)"
    static void promise7Full() {
        for (int n = 1; n <= 4; n++) {
            FireFromFire x = withBytes(100 - n);
            DUE.is("feed of " + n + " to 100", x.feed(0, n), 100);
            FireFromFire y = withBytes(101 - n);
            DUE.is("feed of " + n + " to 101", y.feed(0, n), FULL);
            DUE.is("bytes as they were", y.count(3), 101 - n);
            DUE.is("one less goes", y.feed(0, n - 1), 100);
        }
        FireFromFire full = withBytes(100);
        DUE.each("feed(0, n)", FULL, n -> full.feed(0, n), 1, 2, 3, 4);
        DUE.is("feed of 0", full.feed(0, 0), 100);
    }

    // promise 7: "BAD; FULL": the first that its words name
    static void promise7BadAheadOfFull() {
        FireFromFire full = withBytes(100);
        DUE.each("feed(0, n)", BAD, n -> full.feed(0, n), -1, 5, MIN, MAX);
    }

    // promise 8: "THE TEXT, which is empty then"
    static void promise8EmptyThen() {
        FireFromFire x = new FireFromFire();
        DUE.is("a land", Due.land(x, "burn 1 w=0"), 0);
        DUE.is("no bytes behind it", x.count(3), 0);
        DUE.is("no text", x.land(), -10);
        DUE.is("a fault", Due.land(x, "burn 1 w=x"), -19);
        DUE.is("no bytes behind it", x.count(3), 0);
        DUE.is("no text", x.land(), -10);
        DUE.is("another land", Due.land(x, "burn 1 w=0"), 1);
    }

    // promise 8: "FULL: there are 5 (THE TEXT stays)"
    static void promise8Full() {
        FireFromFire x = Due.village(1, 5, 1);
        for (int n = 0; n < 5; n++) {
            DUE.is("land " + n, Due.land(x, "need " + n + "1 w<3"), n);
        }
        DUE.is("a 6th", Due.land(x, "need 9 w<3"), FULL);
        DUE.is("lands", x.count(1), 5);
        DUE.is("bytes", x.count(3), 10);
        DUE.is("once more", x.land(), FULL);
        DUE.is("bytes", x.count(3), 10);
        DUE.is("the 5th holds", x.told(0, 0, 3), 41);
    }

    // promise 8: "FULL: ..; -10 less the FAULT": the first that its words name
    static void promise8FullAheadOfFault() {
        FireFromFire x = new FireFromFire();
        for (int n = 0; n < 4; n++) {
            Due.land(x, "need 1 w<3");
        }
        DUE.is("a fault, of four", Due.land(x, "needs"), -14);
        DUE.is("the 5th", Due.land(x, "need 1 w<3"), 4);
        DUE.is("no text, of five", x.land(), FULL);
        DUE.is("a fault, of five", Due.land(x, "needs"), FULL);
    }

    // promise 8: "-10 less the FAULT": from place 0 to place 100
    static void promise8FaultPlaces() {
        fault("", 0);
        fault("x", 0);
        for (int place : new int[] {1, 2, 50, 99}) {
            String land = NINE + "out 1 w=12";
            byte[] bytes = land.getBytes(StandardCharsets.ISO_8859_1);
            bytes[place] = '?';
            fault(new String(bytes, StandardCharsets.ISO_8859_1), place);
        }
        fault(NINE + "out 1 w=1|", 100);
    }

    // promise 8: "(the one that held holds)"
    static void promise8TheOneThatHeldHolds() {
        FireFromFire x = Due.village(1, 5, 1);
        DUE.is("a fault without a land", Due.land(x, "need 3 w<3;next 0 1 5;x"), -32);
        DUE.is("there is none", x.count(1), 0);
        DUE.is("no need", x.told(0, 0, 3), 0);
        DUE.is("nothing follows", x.follows(0, 1), 0);
        Due.land(x, "need 1 w<3;next 0 1 4");
        DUE.is("a fault", Due.land(x, "need 3 w<3;next 0 1 5;x"), -32);
        DUE.is("the one", x.told(0, 0, 3), 1);
        DUE.is("the one", x.follows(0, 1), 4);
        DUE.is("lands", x.count(1), 1);
        DUE.is("the next one's number", Due.land(x, "burn 1 w<3"), 1);
        DUE.is("has nothing of what was a fault", x.told(0, 0, 3), 0);
    }

    // promise 8: "(the one that held holds)": as many faults as there may be leave nothing behind
    static void promise8ManyFaults() {
        FireFromFire x = Due.village(1, 5, 1, "need 1 w<3");
        String tests = "w<3&".repeat(22);
        for (int k = 0; k < 12; k++) {
            DUE.is("a fault", Due.land(x, "need 7 " + tests + "x<3"), -10 - 95);
        }
        DUE.is("the one", x.told(0, 0, 3), 1);
        DUE.is("a land", Due.land(x, "need 2 " + tests + "w<3"), 1);
        DUE.is("it holds", x.told(0, 0, 3), 2);
        DUE.is("another one", Due.land(x, "need 3 " + tests + "w>3"), 2);
        DUE.is("it holds", x.told(0, 0, 3), 0);
    }

    // promise 9: "NONE: house"
    static void promise9NoneHouse() {
        FireFromFire x = Due.village(2, 5, 1, "need 1 w<3");
        DUE.is("told(0, 0, 3)", x.told(0, 0, 3), 1);
        DUE.is("told(1, 0, 3)", x.told(1, 0, 3), 1);
        DUE.each("told(n, 0, 3)", NONE, n -> x.told(n, 0, 3), -1, 2, 5, 6, MIN, MAX);
    }

    // promise 9: "NONE: .. weather"
    static void promise9NoneWeather() {
        FireFromFire x = Due.village(2, 5, 1, "need 1 w<3");
        DUE.is("told(0, 0, 3)", x.told(0, 0, 3), 1);
        DUE.is("told(0, 2, 3)", x.told(0, 2, 3), 1);
        DUE.each("told(0, n, 3)", NONE, n -> x.told(0, n, 3), -1, 3, MIN, MAX);
    }

    // promise 9: "NONE: .. what"
    static void promise9NoneWhat() {
        FireFromFire x = Due.village(2, 5, 1, "need 1 w<3;out 2 w<3");
        DUE.is("told(0, 0, 0)", x.told(0, 0, 0), 2);
        DUE.is("told(0, 0, 3)", x.told(0, 0, 3), 1);
        DUE.each("told(0, 0, n)", NONE, n -> x.told(0, 0, n), -1, 4, MIN, MAX);
    }

    // promise 9: "Of a HOUSE in the HOUR that comes, with a WEATHER": not with the one that is
    static void promise9WithAWeather() {
        FireFromFire x = Due.village(1, 5, 1, "need 1 w=0&h=1;need 2 w=1;need 4 w=2&h=0");
        x.go(1, 0);
        DUE.is("dry", x.told(0, 0, 3), 1);
        DUE.is("rain", x.told(0, 1, 3), 2);
        DUE.is("storm", x.told(0, 2, 3), 0);
    }

    // promise 10: "NONE"
    static void promise10None() {
        FireFromFire x = new FireFromFire();
        Due.land(x, "next 0 2 3;next 2 0 4");
        DUE.is("follows(0, 2)", x.follows(0, 2), 3);
        DUE.is("follows(2, 0)", x.follows(2, 0), 4);
        DUE.each("follows(n, 0)", NONE, n -> x.follows(n, 0), -1, 3, MIN, MAX);
        DUE.each("follows(0, n)", NONE, n -> x.follows(0, n), -1, 3, MIN, MAX);
        DUE.each("follows(n, n)", NONE, n -> x.follows(n, n), -1, 3, MIN, MAX);
    }
}
