/**
 * The edges of HOUSES and WAYS: "Terms" 1, its first sentences, and promises 1 to 6. Each test's
 * remark quotes the sentence that it holds.
 */
public final class HouseEdgesTest {
    private static final Due DUE = new Due("HouseEdgesTest");
    private static final int MIN = Due.MIN, MAX = Due.MAX;
    private static final int NONE = Due.NONE, BAD = Due.BAD, FULL = Due.FULL, NO_WAY = Due.NO_WAY;

    public static void main(String[] args) {
        DUE.runAll(HouseEdgesTest.class);
    }

    // the constants: "NONE = -1, BAD = -2, STATE = -3, FULL = -4", "NO = Long.MIN_VALUE"
    static void faceConstants() {
        DUE.is("NONE", FireFromFire.NONE, -1);
        DUE.is("BAD", FireFromFire.BAD, -2);
        DUE.is("STATE", FireFromFire.STATE, -3);
        DUE.is("FULL", FireFromFire.FULL, -4);
        DUE.is("NO", FireFromFire.NO, -9223372036854775808L);
    }

    // "An object is used for at most 512 calls after it has been made"
    static void faceCall512() {
        FireFromFire x = new FireFromFire();
        for (int call = 1; call <= 511; call++) {
            DUE.is("go, call " + call, x.go(call % 3, 0), 0);
        }
        DUE.is("count(4), call 512", x.count(4), 511);
        FireFromFire y = new FireFromFire();
        y.house(3, true);
        for (int call = 2; call <= 511; call++) {
            y.wood(0, call % 100);
        }
        DUE.is("wood, call 512", y.wood(0, 0), 11);
    }

    // terms 1: "HOUSES 0 .. 5, as they come"
    static void termsHouses0To5() {
        FireFromFire x = new FireFromFire();
        for (int h = 0; h <= 5; h++) {
            DUE.is("of(h, 0) ahead of house " + h, x.of(h, 0), NONE);
            DUE.is("house " + h, x.house(10 + h, h % 2 == 1), h);
        }
        for (int h = 0; h <= 5; h++) {
            DUE.is("wood of " + h, x.of(h, 0), 10 + h);
            DUE.is("alight " + h, x.of(h, 1), h % 2);
        }
        DUE.is("house 6", x.house(1, true), FULL);
        DUE.is("of(6, 0)", x.of(6, 0), NONE);
        DUE.is("of(-1, 0)", x.of(-1, 0), NONE);
    }

    // terms 1: "WOOD (0 .. 99)", of a house as it comes
    static void termsWood0To99AsItComes() {
        FireFromFire x = new FireFromFire();
        DUE.is("house(0, true)", x.house(0, true), 0);
        DUE.is("house(99, true)", x.house(99, true), 1);
        DUE.is("least", x.of(0, 0), 0);
        DUE.is("most", x.of(1, 0), 99);
        DUE.each("house(n, true)", BAD, n -> x.house(n, true), -1, 100, MIN, MAX);
    }

    // terms 1: "WOOD (0 .. 99)", of a house that is there
    static void termsWood0To99Later() {
        FireFromFire x = Due.village(1, 50, 1);
        DUE.is("wood(0, 0)", x.wood(0, 0), 50);
        DUE.is("wood(0, 99)", x.wood(0, 99), 0);
        DUE.each("wood(0, n)", BAD, n -> x.wood(0, n), -1, 100, MIN, MAX);
        DUE.is("it stays", x.of(0, 0), 99);
    }

    // terms 1: "WAYS: between any two HOUSES so many hours (0 none, at first ..)"
    static void termsWaysNoneAtFirst() {
        FireFromFire x = Due.village(6, 1, 1);
        DUE.is("apart", x.apart(), NO_WAY);
        for (int a = 0; a < 6; a++) {
            for (int b = 0; b < a; b++) {
                DUE.is("way " + a + " " + b, x.way(a, b, 0), 0);
                DUE.is("way " + b + " " + a, x.way(b, a, 0), 0);
            }
        }
    }

    // terms 1: "(0 none, at first; 1 .. 9)"
    static void termsWays1To9() {
        FireFromFire x = Due.village(2, 1, 1);
        DUE.is("1", x.way(0, 1, 1), 0);
        DUE.is("quickest by 1", x.quickest(1, 0), 1);
        DUE.is("9", x.way(0, 1, 9), 1);
        DUE.is("quickest by 9", x.quickest(1, 0), 9);
        DUE.each("way(0, 1, n)", BAD, n -> x.way(0, 1, n), -1, 10, MIN, MAX);
        DUE.is("0", x.way(0, 1, 0), 9);
        DUE.is("none", x.quickest(1, 0), NO_WAY);
    }

    // terms 1: "either way alike"
    static void termsWaysEitherWayAlike() {
        FireFromFire x = Due.village(6, 1, 1);
        DUE.is("way(0, 5, 4)", x.way(0, 5, 4), 0);
        DUE.is("way(5, 0, 7)", x.way(5, 0, 7), 4);
        DUE.is("way(0, 5, 0)", x.way(0, 5, 0), 7);
        DUE.is("way(5, 0, 0)", x.way(5, 0, 0), 0);
    }

    // terms 1: "WEATHER: 0 dry, 1 rain, 2 storm (0 at first). It is HOUR 0 at first."
    static void termsWeatherAndHourAtFirst() {
        FireFromFire x = new FireFromFire();
        DUE.is("hour", x.count(4), 0);
        DUE.is("weather", x.count(5), 0);
        DUE.is("image", x.image(), 0);
        x.go(2, 0);
        DUE.is("hour", x.count(4), 1);
        DUE.is("weather", x.count(5), 2);
        FireFromFire y = Due.village(2, 1, 1, "need 1 h=0;horn 3 w=0");
        y.way(0, 1, 3);
        DUE.is("need by the hour", y.told(0, 2, 3), 1);
        DUE.is("a horn by the weather", y.quickest(1, 1), 1);
        y.go(1, 0);
        DUE.is("need by another hour", y.told(0, 2, 3), 0);
        DUE.is("a horn by another weather", y.quickest(1, 1), 0);
    }

    // promise 1: "No HOUSES"
    static void promise1NoHouses() {
        FireFromFire x = new FireFromFire();
        DUE.is("houses", x.count(0), 0);
        DUE.is("alight", x.count(6), 0);
        for (int what = 0; what <= 7; what++) {
            DUE.is("of(0, " + what + ")", x.of(0, what), NONE);
        }
        DUE.is("the first one's number", x.house(0, false), 0);
    }

    // promise 1: "no LAND"; terms 1: "without one there are no CLAUSES"
    static void promise1NoLand() {
        FireFromFire x = Due.village(1, 5, 1);
        DUE.is("lands", x.count(1), 0);
        for (int k = 0; k < 12; k++) {
            DUE.is("told(0, " + k / 4 + ", " + k % 4 + ")", x.told(0, k / 4, k % 4), 0);
        }
        for (int k = 0; k < 9; k++) {
            DUE.is("follows " + k / 3 + k % 3, x.follows(k / 3, k % 3), k / 3 == k % 3 ? 10 : 0);
        }
        DUE.is("the first one's number", Due.land(x, "need 1 w<3"), 0);
    }

    // promise 1, and the rest of what is told of a new object
    static void promise1Nothing() {
        FireFromFire x = new FireFromFire();
        for (int what = 0; what <= 7; what++) {
            DUE.is("count(" + what + ")", x.count(what), 0);
        }
        DUE.is("no image", x.undo(), Due.STATE);
        DUE.is("no trace", x.trace(0), NONE);
        for (int t = 0; t <= 5; t++) {
            DUE.is("read of tape " + t, x.read(t, 0), Due.NO);
            DUE.is("item of tape " + t, x.item(t, 0, 1), Due.NOTHING);
        }
    }

    // promise 2: "A HOUSE: its number"
    static void promise2Number() {
        FireFromFire x = new FireFromFire();
        DUE.is("the first", x.house(7, false), 0);
        DUE.is("it is not alight", x.of(0, 1), 0);
        DUE.is("a refused one", x.house(-1, true), BAD);
        DUE.is("takes no number", x.house(8, true), 1);
        DUE.is("it is alight", x.of(1, 1), 1);
    }

    // promise 2: "FULL: 6"
    static void promise2Full() {
        FireFromFire x = Due.village(5, 1, 1);
        DUE.is("the 6th", x.house(2, true), 5);
        DUE.is("the 7th", x.house(2, true), FULL);
        DUE.is("once more", x.house(0, false), FULL);
        DUE.is("houses", x.count(0), 6);
        DUE.is("the 6th stays", x.of(5, 0), 2);
    }

    // promise 2: "BAD: wood; FULL: 6": the first that its words name
    static void promise2BadAheadOfFull() {
        FireFromFire x = Due.village(6, 1, 1);
        DUE.each("house(n, true)", BAD, n -> x.house(n, true), -1, 100);
        DUE.each("house(n, true)", FULL, n -> x.house(n, true), 0, 99);
    }

    // promise 3: "NONE", for the house
    static void promise3NoneHouse() {
        FireFromFire x = Due.village(3, 1, 1);
        DUE.is("of(0, 0)", x.of(0, 0), 1);
        DUE.is("of(2, 0)", x.of(2, 0), 1);
        DUE.each("of(n, 0)", NONE, n -> x.of(n, 0), -1, 3, 5, 6, MIN, MAX);
        DUE.each("of(n, 7)", NONE, n -> x.of(n, 7), -1, 3, 5, 6, MIN, MAX);
    }

    // promise 3: "NONE", for what
    static void promise3NoneWhat() {
        FireFromFire x = Due.village(1, 1, 1);
        DUE.is("of(0, 0)", x.of(0, 0), 1);
        DUE.is("of(0, 7)", x.of(0, 7), NO_WAY);
        DUE.each("of(0, n)", NONE, n -> x.of(0, n), -1, 8, MIN, MAX);
    }

    // promise 3: "2 KIND, 3 v of its KEEPER"; terms 2: "0 KEEPER (at first)", "(0 .. 9; 0 at first)"
    static void promise3KeeperAtFirst() {
        FireFromFire x = Due.village(6, 1, 1);
        for (int h = 0; h < 6; h++) {
            DUE.is("kind of " + h, x.of(h, 2), 0);
            DUE.is("v of " + h, x.of(h, 3), 0);
        }
        x.keeper(5, 6, 9, 0);
        DUE.is("kind", x.of(5, 2), 6);
        DUE.is("v", x.of(5, 3), 9);
        DUE.is("of another one", x.of(4, 2), 0);
    }

    /** House 1 of two, this far from the other one, which is alight; its keeper sends. */
    private static FireFromFire sender(int way) {
        FireFromFire x = Due.village(2, 5, 1, "horn 9 w<3");
        x.way(0, 1, way);
        x.keeper(1, 1, 0, 0);
        return x;
    }

    private static void walker(String when, FireFromFire x, int who, int left, int goal, int horn) {
        DUE.is(when + ": who", x.of(1, 4), who);
        DUE.is(when + ": hours yet", x.of(1, 5), left);
        DUE.is(when + ": to which house", x.of(1, 6), goal);
        DUE.is(when + ": horn", x.of(1, 7), horn);
    }

    // promise 3: "4 who is under way: 0 nobody, .. 5 how many hours yet (0), 6 .. (-5), 7 .. (-5)"
    static void promise3Nobody() {
        FireFromFire x = sender(2);
        walker("at first", x, 0, 0, NO_WAY, NO_WAY);
        walker("a house that never sends", Due.village(2, 5, 1), 0, 0, NO_WAY, NO_WAY);
        Due.go(x, 0, 4);
        walker("it was brought", x, 0, 0, NO_WAY, NO_WAY);
        FireFromFire dropped = sender(2);
        Due.go(dropped, 0, 1);
        dropped.light(0, false);
        Due.go(dropped, 0, 1);
        walker("no fire where it went", dropped, 0, 0, NO_WAY, NO_WAY);
        FireFromFire old = sender(2);
        Due.land(old, "horn 1 w<3");
        Due.go(old, 0, 4);
        walker("the horn is too old", old, 0, 0, NO_WAY, NO_WAY);
    }

    // promise 3: "1 one that GOES", "7 how old the horn is (-5: there is none)"
    static void promise3Goes() {
        FireFromFire x = sender(9);
        Due.go(x, 0, 1);
        walker("just set out", x, 1, 8, 0, NO_WAY);
        Due.go(x, 0, 7);
        walker("nearly there", x, 1, 1, 0, NO_WAY);
    }

    // promise 3: "2 one that BRINGS it", "6 to which HOUSE it went", "7 how old the horn is"
    static void promise3Brings() {
        FireFromFire x = sender(9);
        Due.go(x, 0, 9);
        walker("just there", x, 2, 9, 0, 0);
        Due.go(x, 0, 1);
        walker("an hour back", x, 2, 8, 0, 1);
        Due.go(x, 0, 7);
        walker("nearly back", x, 2, 1, 0, 8);
        DUE.is("back", x.go(0, 0), 3);
        FireFromFire far = Due.village(6, 5, 1 << 5, "horn 9 w<3");
        far.way(1, 5, 2);
        far.keeper(1, 1, 0, 0);
        Due.go(far, 0, 1);
        walker("to house 5", far, 1, 1, 5, NO_WAY);
        Due.go(far, 0, 1);
        walker("from house 5", far, 2, 2, 5, 0);
    }

    // promise 4: "A HOUSE has so much WOOD: how much it had"
    static void promise4HowMuchItHad() {
        FireFromFire x = Due.village(6, 33, 0);
        DUE.is("wood(0, 1)", x.wood(0, 1), 33);
        DUE.is("wood(5, 2)", x.wood(5, 2), 33);
        DUE.is("wood(5, 3)", x.wood(5, 3), 2);
        DUE.is("wood(0, 3)", x.wood(0, 3), 1);
    }

    // promise 4: "NONE"
    static void promise4None() {
        FireFromFire x = Due.village(2, 33, 0);
        DUE.is("wood(1, 33)", x.wood(1, 33), 33);
        DUE.each("wood(n, 1)", NONE, n -> x.wood(n, 1), -1, 2, 6, MIN, MAX);
        FireFromFire six = Due.village(6, 33, 0);
        DUE.is("wood(5, 33)", six.wood(5, 33), 33);
        DUE.each("wood(n, 1)", NONE, n -> six.wood(n, 1), -1, 6);
    }

    // promise 4: "NONE; BAD": the first that its words name
    static void promise4NoneAheadOfBad() {
        FireFromFire x = Due.village(2, 33, 0);
        DUE.each("wood(2, n)", NONE, n -> x.wood(2, n), -1, 100);
        DUE.each("wood(-1, n)", NONE, n -> x.wood(-1, n), -1, 100);
        DUE.each("wood(1, n)", BAD, n -> x.wood(1, n), -1, 100);
    }

    // promise 5: "1 if it was, 0"
    static void promise5IfItWas() {
        FireFromFire x = Due.village(6, 33, 1);
        DUE.is("on, was on", x.light(0, true), 1);
        DUE.is("off, was on", x.light(0, false), 1);
        DUE.is("off, was off", x.light(0, false), 0);
        DUE.is("on, was off", x.light(0, true), 0);
        DUE.is("now alight", x.of(0, 1), 1);
        DUE.is("house 5", x.light(5, true), 0);
        DUE.is("both", x.count(6), 2);
    }

    // promise 5: "NONE"
    static void promise5None() {
        FireFromFire x = Due.village(2, 33, 0);
        DUE.is("light(1, true)", x.light(1, true), 0);
        DUE.each("light(n, true)", NONE, n -> x.light(n, true), -1, 2, 6, MIN, MAX);
        FireFromFire six = Due.village(6, 33, 0);
        DUE.is("light(5, true)", six.light(5, true), 0);
        DUE.each("light(n, true)", NONE, n -> six.light(n, true), -1, 6);
    }

    // promise 5: "(who is under way stays so)"
    static void promise5WhoIsUnderWayStays() {
        FireFromFire x = sender(4);
        Due.go(x, 0, 1);
        x.light(1, true);
        walker("goes, alight", x, 1, 3, 0, NO_WAY);
        x.light(1, false);
        walker("goes, not alight", x, 1, 3, 0, NO_WAY);
        Due.go(x, 0, 4);
        x.light(1, true);
        walker("brings, alight", x, 2, 3, 0, 1);
        x.light(1, false);
        walker("brings, not alight", x, 2, 3, 0, 1);
        x.light(0, false);
        walker("the other house is not alight", x, 2, 3, 0, 1);
        Due.go(x, 0, 2);
        DUE.is("it is brought", x.go(0, 0), 2);
    }

    // promise 6: "what it was"
    static void promise6WhatItWas() {
        FireFromFire x = Due.village(6, 1, 1);
        DUE.is("first", x.way(4, 5, 3), 0);
        DUE.is("again", x.way(4, 5, 9), 3);
        DUE.is("none then", x.way(4, 5, 0), 9);
        DUE.is("there was none", x.way(4, 5, 1), 0);
        DUE.is("another one is as it was", x.way(3, 5, 1), 0);
    }

    // promise 6: "NONE", of either house
    static void promise6None() {
        FireFromFire x = Due.village(2, 1, 1);
        DUE.is("way(0, 1, 1)", x.way(0, 1, 1), 0);
        DUE.each("way(n, 0, 1)", NONE, n -> x.way(n, 0, 1), -1, 2, 6, MIN, MAX);
        DUE.each("way(0, n, 1)", NONE, n -> x.way(0, n, 1), -1, 2, 6, MIN, MAX);
        DUE.each("way(n, n, 1)", NONE, n -> x.way(n, n, 1), -1, 2, 6, MIN, MAX);
        FireFromFire six = Due.village(6, 33, 0);
        DUE.is("way(5, 0, 1)", six.way(5, 0, 1), 0);
        DUE.each("way(n, 5, 1)", NONE, n -> six.way(n, 5, 1), -1, 6);
        DUE.each("way(5, n, 1)", NONE, n -> six.way(5, n, 1), -1, 6);
    }

    // promise 6: "BAD: one HOUSE"
    static void promise6BadOneHouse() {
        FireFromFire x = Due.village(6, 1, 1);
        DUE.each("way(n, n, 1)", BAD, n -> x.way(n, n, 1), 0, 1, 5);
        DUE.each("way(n, n, 0)", BAD, n -> x.way(n, n, 0), 0, 1, 5);
        DUE.is("two houses", x.way(0, 1, 1), 0);
    }

    // promise 6: "NONE; BAD: one HOUSE, n": the first that its words name
    static void promise6NoneAheadOfBad() {
        FireFromFire x = Due.village(2, 1, 1);
        DUE.each("way(0, 2, n)", NONE, n -> x.way(0, 2, n), -1, 10);
        DUE.each("way(2, 0, n)", NONE, n -> x.way(2, 0, n), -1, 10);
        DUE.each("way(-1, 0, n)", NONE, n -> x.way(-1, 0, n), -1, 10);
        DUE.each("way(0, 1, n)", BAD, n -> x.way(0, 1, n), -1, 10);
        DUE.each("way(1, 1, n)", BAD, n -> x.way(1, 1, n), -1, 10);
    }
}
