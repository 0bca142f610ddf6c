/** Promises 1 to 10: houses, ways, the text, lands. */
public final class HousesTest {
    private static final Due DUE = new Due("HousesTest");

    public static void main(String[] args) {
        newObject();
        house();
        of();
        wood();
        light();
        way();
        feed();
        land();
        faults();
        nesting();
        clausesAndBytes();
        told();
        tests();
        follows();
        DUE.end();
    }

    // promise 1
    private static void newObject() {
        FireFromFire x = new FireFromFire();
        for (int what = 0; what <= 7; what++) {
            DUE.is("new: count(" + what + ")", x.count(what), 0);
        }
        DUE.is("new: of(0, 0)", x.of(0, 0), -1);
        DUE.is("new: follows(1, 1)", x.follows(1, 1), 10);
        DUE.is("new: undo", x.undo(), -3);
        DUE.is("new: read(0, 0)", x.read(0, 0), Long.MIN_VALUE);
        DUE.is("NONE", FireFromFire.NONE, -1);
        DUE.is("BAD", FireFromFire.BAD, -2);
        DUE.is("STATE", FireFromFire.STATE, -3);
        DUE.is("FULL", FireFromFire.FULL, -4);
        DUE.is("NO", FireFromFire.NO, Long.MIN_VALUE);
    }

    // promise 2
    private static void house() {
        FireFromFire x = new FireFromFire();
        DUE.is("house(-1)", x.house(-1, true), -2);
        DUE.is("house(100)", x.house(100, true), -2);
        DUE.is("no house came", x.count(0), 0);
        for (int h = 0; h < 6; h++) {
            DUE.is("house " + h, x.house(h == 0 ? 0 : 99, h % 2 == 0), h);
        }
        DUE.is("a 7th house", x.house(5, true), -4);
        DUE.is("BAD ahead of FULL", x.house(100, true), -2);
        DUE.is("wood of 0", x.of(0, 0), 0);
        DUE.is("wood of 1", x.of(1, 0), 99);
        DUE.is("0 alight", x.of(0, 1), 1);
        DUE.is("1 alight", x.of(1, 1), 0);
        DUE.is("houses", x.count(0), 6);
    }

    // promise 3
    private static void of() {
        FireFromFire x = Due.village(2, 50, 1);
        x.way(0, 1, 2);
        x.keeper(1, 4, 7, 3);
        Due.land(x, "horn 5 w<3");
        int[] atFirst = {50, 0, 4, 7, 0, 0, -5, -5};
        int[] going = {50, 0, 4, 7, 1, 1, 0, -5};
        int[] bringing = {50, 0, 4, 7, 2, 2, 0, 0};
        int[] nearer = {50, 0, 4, 7, 2, 1, 0, 1};
        int[] there = {50, 1, 4, 7, 0, 0, -5, -5};
        ofAll(x, "at first", atFirst);
        x.go(0, 0);
        ofAll(x, "going", going);
        x.go(0, 0);
        ofAll(x, "bringing", bringing);
        x.go(0, 0);
        ofAll(x, "nearer", nearer);
        x.go(0, 0);
        ofAll(x, "there", there);
        DUE.is("of(1, 8)", x.of(1, 8), -1);
        DUE.is("of(1, -1)", x.of(1, -1), -1);
        DUE.is("of(2, 0)", x.of(2, 0), -1);
        DUE.is("of(-1, 0)", x.of(-1, 0), -1);
    }

    private static void ofAll(FireFromFire x, String when, int[] dues) {
        for (int what = 0; what < dues.length; what++) {
            DUE.is(when + ": of(1, " + what + ")", x.of(1, what), dues[what]);
        }
    }

    // promise 4
    private static void wood() {
        FireFromFire x = Due.village(1, 40, 0);
        DUE.is("wood(0, 99)", x.wood(0, 99), 40);
        DUE.is("wood(0, 0)", x.wood(0, 0), 99);
        DUE.is("wood(0, 100)", x.wood(0, 100), -2);
        DUE.is("wood(0, -1)", x.wood(0, -1), -2);
        DUE.is("wood(1, 100)", x.wood(1, 100), -1);
        DUE.is("wood(-1, 1)", x.wood(-1, 1), -1);
        DUE.is("it has", x.of(0, 0), 0);
    }

    // promise 5
    private static void light() {
        FireFromFire x = Due.village(2, 40, 1);
        DUE.is("light(0, true)", x.light(0, true), 1);
        DUE.is("light(0, false)", x.light(0, false), 1);
        DUE.is("light(0, false)", x.light(0, false), 0);
        DUE.is("light(0, true)", x.light(0, true), 0);
        DUE.is("light(2, true)", x.light(2, true), -1);
        DUE.is("light(-1, true)", x.light(-1, true), -1);
        x.way(0, 1, 5);
        x.keeper(1, 1, 0, 0);
        x.go(0, 0);
        x.light(1, true);
        DUE.is("who goes stays", x.of(1, 4), 1);
        DUE.is("and is as far", x.of(1, 5), 4);
    }

    // promise 6
    private static void way() {
        FireFromFire x = Due.village(3, 40, 1);
        DUE.is("way(0, 1, 9)", x.way(0, 1, 9), 0);
        DUE.is("way(1, 0, 1)", x.way(1, 0, 1), 9);
        DUE.is("way(0, 1, 0)", x.way(0, 1, 0), 1);
        DUE.is("way(0, 1, 3)", x.way(0, 1, 3), 0);
        DUE.is("way(0, 1, 10)", x.way(0, 1, 10), -2);
        DUE.is("way(0, 1, -1)", x.way(0, 1, -1), -2);
        DUE.is("way(2, 2, 1)", x.way(2, 2, 1), -2);
        DUE.is("way(3, 3, 10)", x.way(3, 3, 10), -1);
        DUE.is("way(0, 3, 1)", x.way(0, 3, 1), -1);
        DUE.is("way(-1, 0, 1)", x.way(-1, 0, 1), -1);
        DUE.is("still 3", x.way(0, 1, 3), 3);
    }

    // promise 7
    private static void feed() {
        FireFromFire x = new FireFromFire();
        DUE.is("feed of 0", x.feed(7, 0), 0);
        DUE.is("feed of 5", x.feed(7, 5), -2);
        DUE.is("feed of -1", x.feed(7, -1), -2);
        DUE.is("feed of 4", x.feed('o' << 24 | 'u' << 16 | 't' << 8 | ' ', 4), 4);
        DUE.is("feed of 2", x.feed(0x7f7f0000 | '5' << 8 | ' ', 2), 6);
        DUE.is("feed of 3", x.feed('w' << 16 | '<' << 8 | '3', 3), 9);
        DUE.is("land", x.land(), 0);
        x.house(1, true);
        DUE.is("what was fed is a land", x.told(0, 0, 0), 5);
        for (int k = 1; k <= 25; k++) {
            DUE.is("feed " + k, x.feed(-1, 4), 4 * k);
        }
        DUE.is("feed behind 100", x.feed(0, 1), -4);
        DUE.is("BAD ahead of FULL", x.feed(0, 6), -2);
        DUE.is("nothing fits always", x.feed(0, 0), 100);
        DUE.is("land of -1s", x.land(), -10);
        x.feed(0, 3);
        for (int k = 1; k <= 24; k++) {
            x.feed(0, 4);
        }
        DUE.is("99 and 2", x.feed(0, 2), -4);
        DUE.is("99 and 1", x.feed(0, 1), 100);
    }

    // promise 8
    private static void land() {
        FireFromFire x = Due.village(1, 10, 1);
        DUE.is("no text", x.land(), -10);
        for (int n = 0; n < 5; n++) {
            DUE.is("land " + n, Due.land(x, "need " + (n + 1) + " w<9"), n);
            DUE.is("it holds", x.told(0, 0, 3), n + 1);
            DUE.is("no text then", x.count(3), 0);
            if (n == 2) {
                DUE.is("a fault", Due.land(x, "need 77 w?"), -19);
                DUE.is("the one that held holds", x.told(0, 0, 3), 3);
                DUE.is("no text behind a fault", x.count(3), 0);
                DUE.is("lands", x.count(1), 3);
            }
        }
        DUE.is("a 6th", Due.land(x, "need 9 w<9"), -4);
        DUE.is("its text stays", x.count(3), 10);
        DUE.is("a fault behind that", Due.land(x, "!"), -4);
        DUE.is("the 5th holds", x.told(0, 0, 3), 5);
        FireFromFire y = Due.village(1, 10, 1);
        DUE.is("a fault", Due.land(y, "need 7 w<3;need 8 w=4;x"), -32);
        DUE.is("behind it a land", Due.land(y, "burn 1 w<3"), 0);
        DUE.is("has nothing of the fault's", y.told(0, 0, 3), 0);
    }

    private static void fault(String text, int place) {
        FireFromFire x = new FireFromFire();
        DUE.is("land of '" + text + "'", Due.land(x, text), -10 - place);
    }

    private static void isLand(String text) {
        FireFromFire x = new FireFromFire();
        DUE.is("land of '" + text + "'", Due.land(x, text), 0);
    }

    // promise 8: the FAULT
    private static void faults() {
        fault("", 0);
        fault("o", 1);
        fault("x", 0);
        fault("nett", 2);
        fault("nexd", 3);
        fault("neet", 3);
        fault("outt", 3);
        fault("out  5 w<1", 4);
        fault("out", 3);
        fault("out ", 4);
        fault("out 5", 5);
        fault("out 5;", 5);
        fault("out 123 w<1", 6);
        fault("out 5 ", 6);
        fault("out 5  w<1", 6);
        fault("out 5 W<1", 6);
        fault("out : w<1", 4);
        fault("out / w<1", 4);
        fault("out 1/ w<1", 5);
        fault("out 1: w<1", 5);
        fault("next / 1 1", 5);
        fault("out 5 w", 7);
        fault("out 5 w~1", 7);
        fault("out 5 w<", 8);
        fault("out 5 w<x", 8);
        fault("out 5 w<123", 10);
        fault("out 5 w<12 ", 10);
        fault("out 5 w<1&", 10);
        fault("out 5 w<1||w<2", 10);
        fault("out 5 w<1)", 9);
        fault("out 5 (w<1", 10);
        fault("out 5 (w<1;", 10);
        fault("out 5 (w<1))", 11);
        fault("out 5 ()", 7);
        fault("out 5 !", 7);
        fault("out 5 w<1;", 10);
        fault("out 5 w<1;;", 10);
        fault(";out 5 w<1", 0);
        fault("out 5 w<1\n", 9);
        fault("next 3 0 1", 5);
        fault("next 0 3 1", 7);
        fault("next 00 1", 6);
        fault("next 0 1", 8);
        fault("next 0 1 ", 9);
        fault("next 0 1 123", 11);
        fault("next 0 1 1 w<1", 10);
        fault("\u00ef", 0);
        isLand("out 5 w<1");
        isLand("out 05 w<01&w>0|!(h=23&a>1)|m<99");
        isLand("next 1 1 99");
        isLand("out 0 w<1");
        isLand("next 0 2 00;burn 1 k=0;horn 12 i>4;need 9 a<3");
    }

    // promise 8: a ( or ! within 4 others is none
    private static void nesting() {
        isLand("out 5 ((((w<1))))");
        fault("out 5 (((((w<1)))))", 10);
        isLand("out 5 !!!!w<1");
        fault("out 5 !!!!!w<1", 10);
        isLand("out 5 !(!(w<1))");
        fault("out 5 !(!(!w<1))", 10);
        fault("out 5 !(!((w<1)))", 10);
        isLand("out 5 (((!w<1)))&(((!w<1|!w<2)))");
        fault("out 5 ((w<1|((w<1&(w<2)))))", 18);
        isLand("out 5 !w<1&!w<1&!w<1&!w<1&!w<1&(w<1)");
    }

    // promise 8: 1 to 10 clauses, 100 bytes at most
    private static void clausesAndBytes() {
        String nine = "out 1 w=1;out 1 w=1;out 1 w=1;out 1 w=1;out 1 w=1;out 1 w=1;out 1 w=1;"
                + "out 1 w=1;out 1 w=1;";
        isLand(nine + "out 1 w=1");
        isLand(nine + "out 1 w=12");
        fault(nine + "out 1 w=1;", 99);
        fault(nine + "out 1 w=1|", 100);
        fault(nine, 90);
    }

    // promise 9
    private static void told() {
        FireFromFire x = Due.village(2, 10, 1);
        for (int what = 0; what <= 3; what++) {
            DUE.is("told without a land", x.told(0, 0, what), 0);
        }
        Due.land(x, "out 60 w<2;out 50 w>0;burn 99 w=0;burn 9 i=1;horn 7 w=2;need 50 w<2;need 60 w>0");
        DUE.is("out, dry", x.told(0, 0, 0), 60);
        DUE.is("out, rain: 100 at most", x.told(0, 1, 0), 100);
        DUE.is("out, storm", x.told(0, 2, 0), 50);
        DUE.is("burn: 99 at most", x.told(1, 0, 1), 99);
        DUE.is("burn of 1 in rain", x.told(1, 1, 1), 9);
        DUE.is("burn of 0 in rain", x.told(0, 1, 1), 0);
        DUE.is("horn in storm", x.told(0, 2, 2), 7);
        DUE.is("horn in rain", x.told(0, 1, 2), 0);
        DUE.is("need in rain: 99 at most", x.told(0, 1, 3), 99);
        DUE.is("told(2, 0, 0)", x.told(2, 0, 0), -1);
        DUE.is("told(-1, 0, 0)", x.told(-1, 0, 0), -1);
        DUE.is("told(0, 3, 0)", x.told(0, 3, 0), -1);
        DUE.is("told(0, -1, 0)", x.told(0, -1, 0), -1);
        DUE.is("told(0, 0, 4)", x.told(0, 0, 4), -1);
        DUE.is("told(0, 0, -1)", x.told(0, 0, -1), -1);
    }

    // promise 9: each letter, each sign, !, & and |
    private static void tests() {
        holds("w=1", false, true);
        holds("w<2", true, true);
        holds("w>0", false, true);
        holds("h=0", true, true);
        holds("h>0", false, false);
        holds("i=1", true, true);
        holds("i<1", false, false);
        holds("k=5", true, true);
        holds("m=37", true, true);
        holds("m>37", false, false);
        holds("m<38", true, true);
        holds("a=2", true, true);
        holds("a>2", false, false);
        holds("!w=1", true, false);
        holds("!!w=1", false, true);
        holds("w=1&i=1", false, true);
        holds("w=1|i=1", true, true);
        holds("i=1|i=1&w=1", true, true);
        holds("(i=1|i=1)&w=1", false, true);
        holds("!w=1&i=1", true, false);
        holds("!(w=1&i=1)", true, false);
        holds("!(w=1|i=1)", false, false);
        holds("i=0|w=1&i=1|a=3", false, true);
        holds("w=0&!(h>5|k<2)&m=37&(a=3|a=2)", true, false);
        FireFromFire x = Due.village(1, 1, 0);
        Due.land(x, "need 1 h=0;need 2 h=23;need 4 h=1");
        DUE.is("hour 0", x.told(0, 0, 3), 1);
        x.go(0, 0);
        DUE.is("hour 1", x.told(0, 0, 3), 4);
        for (int hour = 1; hour < 23; hour++) {
            x.go(0, 0);
        }
        DUE.is("hour 23", x.told(0, 0, 3), 2);
        x.go(0, 0);
        DUE.is("hour 24", x.told(0, 0, 3), 1);
    }

    /** In a village of 3 houses, 0 and 2 alight, of house 1 that has 37 wood and a keeper of kind 5. */
    private static void holds(String test, boolean isDry, boolean isRain) {
        FireFromFire x = Due.village(3, 37, 5);
        x.keeper(1, 5, 0, 0);
        Due.land(x, "need 1 " + test);
        DUE.is(test + ", dry", x.told(1, 0, 3), isDry ? 1 : 0);
        DUE.is(test + ", rain", x.told(1, 1, 3), isRain ? 1 : 0);
    }

    // promise 10
    private static void follows() {
        FireFromFire x = new FireFromFire();
        for (int a = 0; a < 3; a++) {
            for (int b = 0; b < 3; b++) {
                DUE.is("without a land " + a + b, x.follows(a, b), a == b ? 10 : 0);
            }
        }
        Due.land(x, "next 0 1 3;next 0 2 4;next 0 1 2;next 1 0 8;next 1 2 5;next 1 1 9;next 2 1 99");
        int[] dues = {4, 2, 4, 8, 0, 2, 0, 10, 0};
        for (int k = 0; k < 9; k++) {
            DUE.is("follows " + k / 3 + k % 3, x.follows(k / 3, k % 3), dues[k]);
        }
        Due.land(x, "next 1 0 3");
        DUE.is("a single next", x.follows(1, 0), 3);
        DUE.is("the land ahead is forgotten", x.follows(0, 0), 10);
        DUE.is("follows(3, 0)", x.follows(3, 0), -1);
        DUE.is("follows(0, 3)", x.follows(0, 3), -1);
        DUE.is("follows(-1, 0)", x.follows(-1, 0), -1);
        DUE.is("follows(0, -1)", x.follows(0, -1), -1);
    }
}
