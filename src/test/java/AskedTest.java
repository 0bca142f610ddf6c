/** Promises 16 to 24: what is asked of how all is. */
public final class AskedTest {
    private static final Due DUE = new Due("AskedTest");

    public static void main(String[] args) {
        quickest();
        where();
        apart();
        ends();
        endsOfTwoHours();
        mean();
        lasts();
        lastsLong();
        match();
        asked();
        law();
        freed();
        changesNothing();
        DUE.end();
    }

    // promise 16
    private static void quickest() {
        FireFromFire x = Due.village(4, 10, 0b0001);
        x.way(0, 1, 2);
        x.way(1, 2, 3);
        x.way(0, 2, 9);
        Due.land(x, "horn 5 w=0;horn 4 w=1");
        DUE.is("of one alight", x.quickest(0, 0), 0);
        DUE.is("next to it", x.quickest(1, 0), 2);
        DUE.is("through a house", x.quickest(2, 0), 5);
        DUE.is("no way", x.quickest(3, 0), -5);
        DUE.is("a horn holds", x.quickest(2, 1), 1);
        DUE.is("of one alight", x.quickest(0, 1), 1);
        DUE.is("no way, no horn", x.quickest(3, 1), 0);
        x.go(1, 0);
        DUE.is("in rain it doesn't", x.quickest(2, 1), 0);
        x.light(2, true);
        DUE.is("the nearer of two", x.quickest(1, 0), 2);
        x.light(0, false);
        DUE.is("the other way", x.quickest(0, 0), 5);
        x.way(0, 2, 4);
        DUE.is("straight", x.quickest(0, 0), 4);
        x.light(2, false);
        DUE.is("no fire", x.quickest(0, 0), -5);
        DUE.is("no fire, no horn", x.quickest(0, 1), 0);
        DUE.is("quickest(4, 0)", x.quickest(4, 0), -1);
        DUE.is("quickest(-1, 0)", x.quickest(-1, 0), -1);
        DUE.is("quickest(0, 2)", x.quickest(0, 2), -1);
        DUE.is("quickest(0, -1)", x.quickest(0, -1), -1);
    }

    /** Six houses in a row, 9 hours from each to the next. */
    private static FireFromFire row() {
        FireFromFire x = Due.village(6, 10, 0);
        for (int h = 1; h < 6; h++) {
            x.way(h - 1, h, 9);
        }
        return x;
    }

    // promise 17
    private static void where() {
        FireFromFire x = row();
        DUE.is("where(0)", x.where(0), 63);
        DUE.is("where(8)", x.where(8), 63);
        DUE.is("where(9)", x.where(9), 0b010010);
        DUE.is("where(17)", x.where(17), 0b010010);
        DUE.is("where(18): of several the least", x.where(18), 0b001001);
        DUE.is("where(27)", x.where(27), 0b000100);
        DUE.is("where(36)", x.where(36), 0b000010);
        DUE.is("where(40)", x.where(40), 0b000010);
        DUE.is("where(41)", x.where(41), -2);
        DUE.is("where(-1)", x.where(-1), -2);
        x.way(2, 3, 0);
        DUE.is("two that are not joined", x.where(40), 0b001001);
        DUE.is("no houses", new FireFromFire().where(0), 0);
        DUE.is("no houses, 40", new FireFromFire().where(40), 0);
    }

    // promise 18
    private static void apart() {
        FireFromFire x = row();
        DUE.is("a row", x.apart(), 45);
        x.way(0, 5, 8);
        DUE.is("a ring", x.apart(), 26);
        x.way(0, 5, 0);
        x.way(4, 5, 0);
        DUE.is("not joined", x.apart(), -5);
        DUE.is("no house", new FireFromFire().apart(), 0);
        DUE.is("one house", Due.village(1, 1, 1).apart(), 0);
        DUE.is("two houses", Due.village(2, 1, 1).apart(), -5);
    }

    private static void fraction(String name, FireFromFire x, int n, int what, long above, long below) {
        DUE.is(name + ", above", x.ends(n, what, 0), above);
        DUE.is(name + ", below", x.ends(n, what, 1), below);
    }

    // promise 19: ENDS
    private static void ends() {
        FireFromFire none = new FireFromFire();
        fraction("no houses", none, 1, 0, 1, 1);
        fraction("no houses, mean", none, 2, 1, 0, 1);
        FireFromFire x = Due.village(3, 10, 7);
        fraction("never", x, 2, 0, 0, 1);
        Due.land(x, "out 10 w<3");
        fraction("three by themselves", x, 1, 0, 1, 1000);
        x.light(1, false);
        fraction("two", x, 1, 0, 1, 100);
        x.wood(0, 0);
        Due.land(x, "out 10 w<3;burn 1 i=0");
        fraction("one that is out anyway", x, 1, 0, 1, 10);
        Due.land(x, "out 60 w<3;out 60 w<2");
        fraction("always", x, 1, 0, 1, 1);
        long no = Long.MIN_VALUE;
        DUE.is("n 0", x.ends(0, 0, 0), no);
        DUE.is("n 3", x.ends(3, 0, 0), no);
        DUE.is("what 2", x.ends(1, 2, 0), no);
        DUE.is("what -1", x.ends(1, -1, 0), no);
        DUE.is("part 2", x.ends(1, 0, 2), no);
        DUE.is("part -1", x.ends(1, 0, -1), no);
        x.house(1, true);
        DUE.is("4 houses", x.ends(1, 0, 0), no);
    }

    // promise 19: two hours, the weather
    private static void endsOfTwoHours() {
        FireFromFire x = Due.village(1, 10, 1);
        Due.land(x, "out 25 w<3");
        fraction("an hour", x, 1, 0, 1, 4);
        fraction("two hours", x, 2, 0, 7, 16);
        FireFromFire y = Due.village(1, 10, 1);
        Due.land(y, "out 50 w=1;need 6 w=1;next 0 1 2");
        fraction("rain that may follow", y, 1, 0, 1, 10);
        fraction("rain that stays", y, 2, 0, 23, 100);
        y.go(1, 0);
        fraction("rain now", y, 1, 0, 1, 2);
        fraction("rain now, two hours", y, 2, 0, 3, 4);
        FireFromFire z = Due.village(2, 10, 1);
        Due.land(z, "out 50 i=0;horn 9 w<3");
        z.way(0, 1, 1);
        z.keeper(1, 1, 0, 0);
        fraction("fetched too late", z, 1, 0, 1, 2);
        fraction("fetched in time by half", z, 2, 0, 1, 2);
        z.go(0, 0);
        fraction("brought", z, 1, 0, 0, 1);
        FireFromFire a = Due.village(2, 10, 3);
        Due.land(a, "out 50 a=2;out 10 a=1");
        fraction("odds as each hour begins", a, 2, 0, 29, 80);
    }

    // promise 19: MEAN
    private static void mean() {
        FireFromFire x = Due.village(1, 10, 1);
        Due.land(x, "out 25 w<3;need 4 w<3");
        fraction("an hour", x, 1, 1, 4, 1);
        fraction("two hours", x, 2, 1, 7, 1);
        FireFromFire y = Due.village(1, 10, 1);
        Due.land(y, "out 50 w=1;need 6 w=1;next 0 1 2");
        fraction("rain", y, 1, 1, 6, 5);
        fraction("rain, two hours", y, 2, 1, 69, 25);
        FireFromFire z = Due.village(3, 99, 7);
        Due.land(z, "out 33 i=0;out 7 i=1;out 1 i=2;need 99 w<3;next 0 1 3;next 0 2 3");
        fraction("the greatest", z, 2, 1, 55341, 100);
        z.light(0, false);
        z.light(1, false);
        z.light(2, false);
        fraction("without fire", z, 2, 1, 0, 1);
    }

    // promise 20
    private static void lasts() {
        DUE.is("no houses", new FireFromFire().lasts(), 0);
        DUE.is("no fire", Due.village(2, 10, 0).lasts(), 0);
        FireFromFire x = Due.village(1, 10, 1);
        DUE.is("nothing burns", x.lasts(), -5);
        Due.land(x, "burn 3 w=0;burn 6 w=1");
        DUE.is("10 of wood by 3", x.lasts(), 4);
        x.wood(0, 9);
        DUE.is("9 of wood by 3", x.lasts(), 4);
        x.wood(0, 2);
        DUE.is("2 of wood by 3", x.lasts(), 1);
        x.wood(0, 99);
        x.go(1, 0);
        DUE.is("weather stays: 93 by 6", x.lasts(), 16);
        FireFromFire y = Due.village(2, 2, 1);
        Due.land(y, "burn 1 i=0;horn 9 w<3");
        y.way(0, 1, 2);
        y.keeper(1, 1, 0, 0);
        DUE.is("out while a horn is under way", y.lasts(), 3);
        y.wood(0, 9);
        DUE.is("brought in time", y.lasts(), -5);
    }

    // promise 20: 200 hours and more
    private static void lastsLong() {
        FireFromFire x = Due.village(1, 95, 1);
        Due.land(x, "burn 1 h<11");
        DUE.is("95 of wood by 11 a day", x.lasts(), 200);
        x.wood(0, 96);
        DUE.is("96 of wood", x.lasts(), -5);
        x.wood(0, 94);
        DUE.is("94 of wood", x.lasts(), 199);
    }

    // promise 21
    private static void match() {
        FireFromFire x = Due.village(2, 10, 1);
        Due.land(x, "need 2 i=1;need 5 w=1;burn 3 i=1");
        DUE.is("an hour", x.match(1, 1), 2);
        DUE.is("4 hours: 3 that burn, and one as it ends", x.match(1, 4), 8);
        DUE.is("48 hours", x.match(1, 48), 8);
        DUE.is("alight already", x.match(0, 48), 0);
        x.go(1, 0);
        DUE.is("in rain", x.match(1, 2), 14);
        DUE.is("match(1, 0)", x.match(1, 0), -100002);
        DUE.is("match(1, 49)", x.match(1, 49), -100002);
        DUE.is("match(2, 1)", x.match(2, 1), -100001);
        DUE.is("match(-1, 49)", x.match(-1, 49), -100001);
        FireFromFire y = Due.village(2, 10, 2);
        Due.land(y, "need 5 i=1");
        y.keeper(1, 2, 0, 0);
        DUE.is("a fire that makes another one go out", y.match(0, 3), -10);
        FireFromFire z = Due.village(2, 10, 1);
        Due.land(z, "need 3 i=1;horn 9 w<3");
        z.way(0, 1, 2);
        z.keeper(1, 1, 0, 0);
        DUE.is("it would have been fetched", z.match(1, 48), 12);
    }

    // promise 22
    private static void asked() {
        FireFromFire x = Due.village(3, 10, 0b011);
        Due.land(x, "need 2 i=2");
        DUE.is("no ways", x.asked(0), 0);
        x.way(0, 2, 4);
        x.way(1, 2, 4);
        DUE.is("of several the least, whatever the keeper", x.asked(0), 48);
        DUE.is("not the other", x.asked(1), 0);
        x.way(1, 2, 3);
        DUE.is("not so near", x.asked(0), 0);
        DUE.is("the nearest", x.asked(1), 48);
        DUE.is("not alight", x.asked(2), -3);
        DUE.is("asked(3)", x.asked(3), -1);
        DUE.is("asked(-1)", x.asked(-1), -1);
        Due.land(x, "need 5 i=2");
        DUE.is("99 at most", x.asked(1), 99);
        x.light(2, true);
        DUE.is("all are alight", x.asked(1), 0);
        FireFromFire y = Due.village(3, 10, 0b110);
        Due.land(y, "need 5 i=1");
        y.way(0, 1, 1);
        y.keeper(1, 2, 0, 0);
        DUE.is("a match below 0", y.asked(1), 0);
        FireFromFire first = Due.village(2, 10, 0b10);
        Due.land(first, "need 1 i=0");
        first.way(0, 1, 1);
        DUE.is("of house 0", first.asked(1), 24);
        FireFromFire z = Due.village(3, 10, 0b001);
        Due.land(z, "need 1 i=1;need 3 i=2");
        z.way(0, 1, 1);
        z.way(0, 2, 9);
        DUE.is("the greatest of two", z.asked(0), 72);
    }

    // promise 23
    private static void law() {
        DUE.is("no houses", new FireFromFire().law(1), -5);
        DUE.is("no fire", Due.village(2, 9, 0).law(1), -5);
        FireFromFire x = Due.village(2, 5, 3);
        x.wood(0, 0);
        Due.land(x, "burn 99 a>1&h>0");
        DUE.is("an hour", x.law(1), 0);
        DUE.is("two hours", x.law(2), 1);
        DUE.is("99 hours", x.law(99), 1);
        x.wood(0, 5);
        DUE.is("none", x.law(2), -5);
        x.wood(0, 4);
        DUE.is("5", x.law(2), 5);
        x.wood(0, 8);
        x.wood(1, 9);
        DUE.is("9", x.law(2), 9);
        DUE.is("law(0)", x.law(0), -2);
        DUE.is("law(100)", x.law(100), -2);
        FireFromFire y = Due.village(1, 5, 1);
        Due.land(y, "burn 99 k=4&w=1");
        y.keeper(0, 5, 3, 0);
        DUE.is("by PAID keepers", y.law(9), 0);
        y.go(1, 0);
        y.light(0, true);
        DUE.is("PAID in the land, too", y.law(9), -5);
        DUE.is("the keeper stays", y.of(0, 2), 5);
        DUE.is("and its v", y.of(0, 3), 3);
    }

    // promise 24
    private static void freed() {
        FireFromFire x = Due.village(5, 5, 0b10111);
        DUE.is("KEEPERS keep", x.freed(), 0);
        x.keeper(0, 5, 0, 0);
        DUE.is("house 0", x.freed(), 1);
        x.keeper(0, 0, 0, 0);
        x.keeper(1, 2, 0, 0);
        x.keeper(2, 3, 1, 0);
        x.keeper(3, 2, 0, 0);
        x.keeper(4, 4, 6, 0);
        Due.land(x, "need 1 w=1;burn 99 i=0");
        DUE.is("three let it out", x.freed(), 0b10110);
        x.go(1, 0);
        for (int h = 0; h < 5; h++) {
            x.light(h, h != 3);
        }
        DUE.is("with the weather as it is", x.freed(), 0b10010);
        DUE.is("no houses", new FireFromFire().freed(), 0);
    }

    private static void changesNothing() {
        FireFromFire x = Due.village(3, 10, 0b011);
        Due.land(x, "burn 1 w<3;need 2 w<3;horn 9 w<3;out 5 w<3;next 0 1 3");
        x.way(0, 2, 3);
        x.keeper(2, 1, 2, 0);
        x.go(1, 0);
        x.quickest(2, 1);
        x.where(3);
        x.apart();
        x.ends(2, 0, 0);
        x.lasts();
        x.match(2, 20);
        x.asked(0);
        x.law(50);
        x.freed();
        int[] dues = {10, 0, 1, 2, 1, 2, 0, -5};
        for (int what = 0; what < 8; what++) {
            DUE.is("of(2, " + what + ")", x.of(2, what), dues[what]);
        }
        DUE.is("wood of 0", x.of(0, 0), 9);
        DUE.is("alight", Due.lit(x), 0b011);
        DUE.is("hour", x.count(4), 1);
        DUE.is("weather", x.count(5), 1);
    }
}
