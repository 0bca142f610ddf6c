/** Promises 11 to 15: keepers, hours that go, nights told by hand. */
public final class HoursTest {
    private static final Due DUE = new Due("HoursTest");

    public static void main(String[] args) {
        keeper();
        keeps();
        sends();
        would();
        go();
        burning();
        fetching();
        hornAndWays();
        byNumbers();
        asItBegan();
        night();
        hand();
        DUE.end();
    }

    // promise 11
    private static void keeper() {
        FireFromFire x = Due.village(2, 10, 1);
        DUE.is("keeper(0, 6, 9, all)", x.keeper(0, 6, 9, 0xffffff), 0);
        DUE.is("keeper(0, 1, 0, 0)", x.keeper(0, 1, 0, 0), 6);
        DUE.is("kind", x.of(0, 2), 1);
        DUE.is("v", x.of(0, 3), 0);
        DUE.is("kind 7", x.keeper(0, 7, 0, 0), -1);
        DUE.is("kind -1", x.keeper(0, -1, 10, 0), -1);
        DUE.is("house 2", x.keeper(2, 0, 10, 0), -1);
        DUE.is("house -1", x.keeper(-1, 0, 0, 0), -1);
        DUE.is("v 10", x.keeper(0, 2, 10, 0), -2);
        DUE.is("v -1", x.keeper(0, 2, -1, 0), -2);
        DUE.is("hours 25 bits", x.keeper(0, 2, 0, 1 << 24), -2);
        DUE.is("hours -1", x.keeper(0, 2, 0, -1), -2);
        DUE.is("still of kind 1", x.keeper(0, 0, 0, 0), 1);
    }

    /** House 1 of 3 that have 5 wood, in a land with need 3 when it rains: what its keeper does. */
    private static int wouldOf(int kind, int v, int hours, int alight, int weather) {
        FireFromFire x = Due.village(3, 5, alight);
        x.way(0, 1, 2);
        x.way(1, 2, 2);
        Due.land(x, "need 3 w=1");
        x.keeper(1, kind, v, hours);
        return x.would(1, weather);
    }

    // promise 12: of a house that is alight
    private static void keeps() {
        DUE.is("KEEPER keeps", wouldOf(0, 9, 0, 7, 0), 1);
        DUE.is("EACH keeps", wouldOf(1, 9, 0, 7, 0), 1);
        DUE.is("ONE, 0 alight", wouldOf(2, 0, 0, 3, 0), 2);
        DUE.is("ONE, 2 alight", wouldOf(2, 0, 0, 6, 0), 1);
        DUE.is("FREE, need 0 of 1", wouldOf(3, 1, 0, 2, 0), 2);
        DUE.is("FREE, need 0 of 0", wouldOf(3, 0, 0, 2, 0), 1);
        DUE.is("FREE, need 3 of 3", wouldOf(3, 3, 0, 2, 1), 1);
        DUE.is("FREE, need 3 of 4", wouldOf(3, 4, 0, 2, 1), 2);
        DUE.is("PAID, wood 5 of 5", wouldOf(4, 5, 0, 2, 0), 1);
        DUE.is("PAID, wood 5 of 6", wouldOf(4, 6, 0, 2, 0), 2);
        DUE.is("TOLD, hour 0 told", wouldOf(5, 0, 1, 3, 0), 1);
        DUE.is("TOLD, hour 0 not told", wouldOf(5, 0, 0xfffffe, 2, 0), 2);
        DUE.is("RARE, 2 others of 2", wouldOf(6, 2, 0, 7, 0), 2);
        DUE.is("RARE, 1 other of 2", wouldOf(6, 2, 0, 6, 0), 1);
        DUE.is("RARE, another 1 other of 2", wouldOf(6, 2, 0, 3, 0), 1);
        DUE.is("RARE, none of 0", wouldOf(6, 0, 0, 2, 0), 2);
        FireFromFire x = Due.village(1, 5, 1);
        x.keeper(0, 5, 0, 1 | 1 << 2 | 1 << 23);
        for (int hour = 0; hour < 50; hour++) {
            x.light(0, true);
            int h = hour % 24;
            DUE.is("TOLD in hour " + hour, x.would(0, 0), h == 0 || h == 2 || h == 23 ? 1 : 2);
            x.go(0, 0);
        }
    }

    // promise 12: of a house that isn't
    private static void sends() {
        DUE.is("KEEPER never sends", wouldOf(0, 0, 0, 5, 0), 0);
        DUE.is("EACH sends", wouldOf(1, 0, 0, 5, 0), 3);
        DUE.is("EACH, no fire", wouldOf(1, 0, 0, 0, 0), 0);
        DUE.is("ONE, 0 alight", wouldOf(2, 0, 0, 1, 0), 0);
        DUE.is("ONE, 2 alight", wouldOf(2, 0, 0, 4, 0), 3);
        DUE.is("FREE, need 3 of 3", wouldOf(3, 3, 0, 1, 1), 3);
        DUE.is("FREE, need 0 of 3", wouldOf(3, 3, 0, 1, 0), 0);
        DUE.is("PAID, wood 5 of 9", wouldOf(4, 9, 0, 1, 0), 3);
        DUE.is("TOLD, 0 alight", wouldOf(5, 0, 1, 1, 0), 0);
        DUE.is("TOLD, 2 alight, not its hour", wouldOf(5, 0, 0, 4, 0), 3);
        FireFromFire x = Due.village(4, 5, 0b0010);
        x.way(1, 3, 2);
        x.keeper(3, 2, 0, 0);
        DUE.is("ONE, 1 alight", x.would(3, 0), 0);
        x.light(3, true);
        DUE.is("ONE, 1 and itself alight", x.would(3, 0), 2);
        DUE.is("RARE, need 3 of 3", wouldOf(6, 3, 0, 5, 1), 3);
        DUE.is("RARE, need 3 of 4", wouldOf(6, 4, 0, 5, 1), 0);
    }

    // promise 12: the rest
    private static void would() {
        FireFromFire x = Due.village(2, 0, 1);
        Due.land(x, "burn 5 w<3");
        DUE.is("keeps, though it has less wood than burn", x.would(0, 0), 1);
        x.keeper(1, 1, 0, 0);
        DUE.is("no way to fire", x.would(1, 0), 0);
        x.way(0, 1, 3);
        DUE.is("a way", x.would(1, 0), 3);
        x.go(0, 0);
        x.light(0, true);
        DUE.is("one is under way already", x.would(1, 0), 0);
        x.light(1, true);
        DUE.is("alight with one under way", x.would(1, 0), 1);
        DUE.is("would(2, 0)", x.would(2, 0), -1);
        DUE.is("would(-1, 0)", x.would(-1, 0), -1);
        DUE.is("would(0, 3)", x.would(0, 3), -1);
        DUE.is("would(0, -1)", x.would(0, -1), -1);
    }

    // promise 13: refusals, the weather, the hour
    private static void go() {
        FireFromFire x = Due.village(2, 10, 3);
        DUE.is("weather 3", x.go(3, 9), -1);
        DUE.is("weather -1", x.go(-1, 0), -1);
        DUE.is("mishaps 4", x.go(0, 4), -2);
        DUE.is("mishaps -1", x.go(0, -1), -2);
        DUE.is("no hour went", x.count(4), 0);
        DUE.is("mishap of 0", x.go(2, 1), 2);
        DUE.is("hour", x.count(4), 1);
        DUE.is("weather", x.count(5), 2);
        DUE.is("mishap of one that is not alight", x.go(1, 1), 2);
        DUE.is("mishaps of both", x.go(0, 3), 0);
        DUE.is("nothing", x.go(0, 0), 0);
        FireFromFire empty = new FireFromFire();
        DUE.is("no houses", empty.go(1, 0), 0);
        DUE.is("no houses, a mishap", empty.go(1, 1), -2);
    }

    // promise 13: wood
    private static void burning() {
        FireFromFire x = Due.village(2, 7, 1);
        Due.land(x, "burn 3 w=0;burn 99 w=1");
        DUE.is("7 of wood", x.go(0, 0), 1);
        DUE.is("is 4", x.of(0, 0), 4);
        DUE.is("no wood burns without fire", x.of(1, 0), 7);
        DUE.is("4 of wood", x.go(0, 0), 1);
        DUE.is("is 1", x.of(0, 0), 1);
        DUE.is("no burn", x.go(2, 0), 1);
        DUE.is("1 is too little", x.go(0, 0), 0);
        DUE.is("but stays", x.of(0, 0), 1);
        x.light(0, true);
        x.wood(0, 3);
        DUE.is("3 is just enough", x.go(0, 0), 1);
        DUE.is("is 0", x.of(0, 0), 0);
        x.wood(0, 50);
        DUE.is("a mishap", x.go(0, 1), 0);
        DUE.is("burns nothing", x.of(0, 0), 50);
        x.light(0, true);
        x.keeper(0, 4, 9, 0);
        x.wood(0, 8);
        DUE.is("let out", x.go(0, 0), 0);
        DUE.is("burns nothing", x.of(0, 0), 8);
    }

    // promise 13: sends, goes, brings
    private static void fetching() {
        FireFromFire x = Due.village(4, 10, 0b1101);
        Due.land(x, "horn 2 w<3");
        x.way(1, 0, 2);
        x.way(1, 2, 2);
        x.way(1, 3, 3);
        x.keeper(1, 1, 0, 0);
        x.go(0, 0);
        DUE.is("to the least of the nearest", x.of(1, 6), 0);
        DUE.is("an hour nearer at once", x.of(1, 5), 1);
        DUE.is("goes", x.of(1, 4), 1);
        x.go(0, 0);
        DUE.is("brings", x.of(1, 4), 2);
        DUE.is("for two hours", x.of(1, 5), 2);
        DUE.is("not yet", x.go(0, 0), 0b1101);
        DUE.is("there it is", x.go(0, 0), 0b1111);
        DUE.is("nobody then", x.of(1, 4), 0);

        FireFromFire out = Due.village(2, 10, 1);
        Due.land(out, "horn 9 w<3");
        out.way(0, 1, 2);
        out.keeper(1, 1, 0, 0);
        out.go(0, 0);
        DUE.is("the fire there goes out as it comes", out.go(0, 1), 0);
        DUE.is("under way no more", out.of(1, 4), 0);

        FireFromFire one = Due.village(2, 10, 1);
        one.way(0, 1, 1);
        one.keeper(1, 1, 0, 0);
        Due.land(one, "horn 1 w<3");
        DUE.is("goes and takes in one hour", one.go(0, 0), 1);
        DUE.is("brings", one.of(1, 4), 2);
        DUE.is("brought in the next", one.go(0, 0), 3);
    }

    // promise 13: how long a horn holds; ways that change
    private static void hornAndWays() {
        FireFromFire x = Due.village(2, 10, 1);
        Due.land(x, "horn 1 i=1;horn 9 i=0;horn 1 w=2");
        x.way(0, 1, 2);
        x.keeper(1, 1, 0, 0);
        x.go(0, 0);
        x.go(0, 0);
        x.go(0, 0);
        DUE.is("1 old", x.of(1, 7), 1);
        DUE.is("2 is too old for its own house's horn", x.go(0, 0), 1);
        DUE.is("under way no more", x.of(1, 4), 0);
        x.go(0, 0);
        x.go(0, 0);
        x.go(0, 0);
        DUE.is("in a storm it holds 2", x.go(2, 0), 3);

        FireFromFire gone = Due.village(2, 10, 1);
        Due.land(gone, "horn 9 w<3");
        gone.way(0, 1, 2);
        gone.keeper(1, 1, 0, 0);
        gone.go(0, 0);
        gone.way(0, 1, 0);
        gone.go(0, 0);
        DUE.is("a way that is gone is 1 back", gone.of(1, 5), 1);
        DUE.is("there", gone.go(0, 0), 3);

        FireFromFire longer = Due.village(2, 10, 1);
        Due.land(longer, "horn 9 w<3");
        longer.way(0, 1, 2);
        longer.keeper(1, 1, 0, 0);
        longer.go(0, 0);
        longer.way(0, 1, 7);
        longer.go(0, 0);
        DUE.is("as the way is now", longer.of(1, 5), 7);
        longer.way(0, 1, 1);
        longer.go(0, 0);
        DUE.is("but not behind that", longer.of(1, 5), 6);
    }

    // promise 13: those under way move by numbers, and see what is now
    private static void byNumbers() {
        FireFromFire x = Due.village(3, 10, 0b001);
        Due.land(x, "horn 9 w<3");
        x.way(0, 1, 1);
        x.way(1, 2, 1);
        x.keeper(1, 1, 0, 0);
        x.go(0, 0);
        x.light(1, true);
        x.keeper(2, 1, 0, 0);
        x.light(2, false);
        x.way(1, 2, 1);
        DUE.is("1 is out by a mishap and alight again when 2's comes", x.go(0, 2), 0b011);
        DUE.is("so it brings", x.of(2, 4), 2);

        FireFromFire y = Due.village(3, 10, 0b100);
        Due.land(y, "horn 9 w<3");
        y.way(1, 2, 1);
        y.way(0, 1, 1);
        y.keeper(1, 1, 0, 0);
        y.go(0, 0);
        y.light(1, true);
        y.keeper(0, 1, 0, 0);
        DUE.is("0 comes ahead of 1's horn", y.go(0, 2), 0b110);
        DUE.is("so nobody brings", y.of(0, 4), 0);
    }

    // promise 13: by how all was as the hour began
    private static void asItBegan() {
        FireFromFire x = Due.village(2, 10, 0b11);
        x.keeper(1, 2, 0, 0);
        DUE.is("ONE lets it out in the hour in which 0 goes out", x.go(0, 1), 0);

        FireFromFire y = Due.village(2, 10, 0b11);
        Due.land(y, "burn 4 a=2;burn 1 a=1");
        y.go(0, 1);
        DUE.is("burn by two alight", y.of(1, 0), 6);
        y.go(0, 0);
        DUE.is("burn by one alight", y.of(1, 0), 5);

        FireFromFire z = Due.village(2, 10, 0b01);
        z.way(0, 1, 1);
        z.keeper(1, 1, 0, 0);
        DUE.is("0 goes out as 1 sends", z.go(0, 1), 0);
        DUE.is("it sent, and is back", z.of(1, 4), 0);

        FireFromFire m = Due.village(2, 5, 0b01);
        m.way(0, 1, 1);
        m.keeper(1, 1, 0, 0);
        Due.land(m, "burn 1 w<3;horn 1 a=1&h<9");
        m.go(0, 0);
        m.wood(0, 5);
        DUE.is("horn by how many were alight as it began", m.go(0, 1), 2);
    }

    // promise 14
    private static void night() {
        FireFromFire x = Due.village(1, 10, 1);
        DUE.is("weather 3", x.night(3, 64), -1);
        DUE.is("weather -2", x.night(-2, 0), -1);
        DUE.is("mishaps 64", x.night(0, 64), -2);
        DUE.is("mishaps -1", x.night(0, -1), -2);
        for (int n = 1; n <= 12; n++) {
            DUE.is("night " + n, x.night(n % 3, 63), n);
        }
        DUE.is("a 13th", x.night(0, 0), -4);
        DUE.is("BAD ahead of FULL", x.night(0, 64), -2);
        DUE.is("nights", x.count(2), 12);
        DUE.is("none then", x.night(-1, 99), 0);
        DUE.is("nights", x.count(2), 0);
        DUE.is("one", x.night(2, 0), 1);
    }

    // promise 15
    private static void hand() {
        FireFromFire x = Due.village(2, 10, 0b01);
        Due.land(x, "burn 3 w=0;need 5 i=0;need 1 w=1&i=1");
        x.night(0, 0);
        x.night(1, 62);
        x.night(2, 1);
        x.night(0, 0);
        int[][] dues = {{10, 10, 1, 0, 0}, {7, 10, 1, 0, 5}, {7, 10, 1, 1, 10}, {7, 10, 0, 1, 15},
            {7, 10, 0, 2, 15}};
        int[] whats = {0, 1, 6, 7, 8};
        for (int n = 0; n <= 4; n++) {
            for (int k = 0; k < 5; k++) {
                DUE.is("hand(" + n + ", " + whats[k] + ")", x.hand(n, whats[k]), dues[n][k]);
            }
        }
        DUE.is("hand(5, 0)", x.hand(5, 0), -1002);
        DUE.is("hand(-1, 6)", x.hand(-1, 6), -1002);
        DUE.is("hand(0, 9)", x.hand(0, 9), -1001);
        DUE.is("hand(0, -1)", x.hand(0, -1), -1001);
        DUE.is("wood of a house that isn't there", x.hand(0, 2), -1001);
        DUE.is("NONE ahead of BAD", x.hand(5, 9), -1001);
        DUE.is("it was asked, nothing changed", x.of(0, 0), 10);
        DUE.is("hour", x.count(4), 0);
        DUE.is("weather", x.count(5), 0);
        x.light(1, true);
        DUE.is("from how all is", x.hand(2, 6), 1);
    }
}
