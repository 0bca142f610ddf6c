/**
 * The edges of judging, THE IMAGE, ACTS and TAPES: the rest of "Terms" 3, "Terms" 4, and promises
 * 25 to 35. Each test's remark quotes the sentence that it holds.
 */
public final class RestEdgesTest {
    private static final Due DUE = new Due("RestEdgesTest");
    private static final int MIN = Due.MIN, MAX = Due.MAX;
    private static final int NONE = Due.NONE, BAD = Due.BAD, STATE = Due.STATE, FULL = Due.FULL;
    private static final int NO_WAY = Due.NO_WAY, NOTHING = Due.NOTHING, CAST = Due.CAST;
    private static final int PLACE = Due.PLACE, SIZE = Due.SIZE;
    private static final int BOOLEANS = 4;
    private static final long NO = Due.NO;

    public static void main(String[] args) {
        DUE.runAll(RestEdgesTest.class);
    }

    /** Tape 0 becomes a row of n booleans, by bits. */
    private static void booleans(FireFromFire x, int n, int bits) {
        x.tape(0, BOOLEANS, n);
        for (int i = 0; i < n; i++) {
            x.item(0, i, bits >> i & 1);
        }
    }

    // promise 25: "NONE: tape"; terms 4: "TAPES 0 .. 5"
    static void promise25NoneTape() {
        FireFromFire x = Due.village(1, 5, 1);
        Due.fill(x, 5, BOOLEANS, 1);
        DUE.is("judge(0, 0, 0)", x.judge(0, 0, 0), 100);
        DUE.is("judge(5, 0, 0)", x.judge(5, 0, 0), NO_WAY);
        DUE.each("judge(n, 0, 0)", NONE, n -> x.judge(n, 0, 0), -1, 6, MIN, MAX);
    }

    // promise 25: "BAD"; "behind n NIGHTS (0 .. as many as there are)"
    static void promise25BadNights() {
        FireFromFire x = Due.village(1, 12, 1, "burn 1 w<3");
        booleans(x, 1, 1);
        for (int nights = 0; nights <= 11; nights++) {
            int one = nights + 1;
            DUE.is("behind none of " + nights, x.judge(0, 0, 0), NO_WAY);
            DUE.is("behind all of " + nights, x.judge(0, 0, nights), NO_WAY);
            DUE.each("judge(0, 0, n) of " + nights, BAD, n -> x.judge(0, 0, n), -1, one, 13, MIN, MAX);
            x.night(0, nights == 11 ? 1 : 0);
        }
        DUE.is("not yet in the 11th", x.judge(0, 0, 11), NO_WAY);
        DUE.is("out in the 12th", x.judge(0, 0, 12), 0);
        DUE.is("there is no 13th", x.judge(0, 0, 13), BAD);
    }

    // promise 25: "CAST: it is no row of booleans"
    static void promise25Cast() {
        for (int sort = 0; sort <= 4; sort++) {
            FireFromFire x = Due.village(2, 5, 0b01);
            Due.fill(x, 0, sort, 1, 0);
            DUE.is("sort " + sort, x.judge(0, 0, 0), sort == 4 ? NO_WAY : CAST);
            DUE.is("sort " + sort + ", a place below 0", x.judge(0, -1, 0), sort == 4 ? 100 : CAST);
            x.tape(0, sort, 0);
            DUE.is("sort " + sort + ", no items", x.judge(0, 0, 0), sort == 4 ? 100 : CAST);
            x.tape(0, -1, 0);
            DUE.is("nothing is no other sort", x.judge(0, 0, 0), 100);
        }
    }

    // promise 25: "NONE: tape; BAD; CAST": the first that its words name
    static void promise25InOrder() {
        FireFromFire x = Due.village(1, 5, 1);
        Due.fill(x, 0, 3, 1);
        DUE.is("NONE ahead of BAD", x.judge(6, 0, 1), NONE);
        DUE.is("NONE ahead of BAD", x.judge(-1, 0, -1), NONE);
        DUE.is("BAD ahead of CAST", x.judge(0, 0, 1), BAD);
        DUE.is("BAD ahead of CAST", x.judge(0, 0, -1), BAD);
        DUE.is("BAD ahead of 100", x.judge(1, -1, 1), BAD);
        DUE.is("CAST", x.judge(0, -1, 0), CAST);
    }

    // terms 4: "the first HOUSE that is otherwise"
    static void promise25FirstOtherwise() {
        int alight = 0b101101;
        FireFromFire x = Due.village(6, 5, alight);
        for (int bits = 0; bits < 64; bits++) {
            if (bits == 32) {
                x = Due.village(6, 5, alight);
            }
            booleans(x, 6, bits);
            int due = bits == alight ? NO_WAY : Integer.numberOfTrailingZeros(bits ^ alight);
            DUE.is("told by " + bits, x.judge(0, 0, 0), due);
        }
    }

    // terms 4: "-5: none": of a row as long as HOUSES are, and of a longer one
    static void promise25NoneOtherwise() {
        for (int houses = 1; houses <= 6; houses++) {
            FireFromFire x = Due.village(houses, 5, 0b010110);
            booleans(x, houses, 0b010110);
            DUE.is("as long, of " + houses, x.judge(0, 0, 0), NO_WAY);
            booleans(x, 60, 0b010110);
            DUE.is("longer, of " + houses, x.judge(0, 0, 0), NO_WAY);
            booleans(x, houses + 1, 0b010110 << 1);
            DUE.is("from place 1, of " + houses, x.judge(0, 1, 0), NO_WAY);
        }
    }

    // terms 4: "-5: .. there are no HOUSES (also if the TAPE holds nothing)"
    static void promise25NoHouses() {
        FireFromFire x = new FireFromFire();
        DUE.is("nothing", x.judge(0, 0, 0), NO_WAY);
        DUE.is("nothing, a place below 0", x.judge(0, -1, 0), NO_WAY);
        booleans(x, 0, 0);
        DUE.is("no items", x.judge(0, 0, 0), NO_WAY);
        booleans(x, 2, 3);
        DUE.is("two items", x.judge(0, 0, 0), NO_WAY);
        DUE.is("beyond the end", x.judge(0, 3, 0), NO_WAY);
        DUE.is("below 0", x.judge(0, MIN, 0), NO_WAY);
        x.house(5, true);
        DUE.is("a house has come", x.judge(0, MIN, 0), 100);
    }

    // terms 4: "100 and how many were looked at, if the row ends ahead of that"
    static void promise25RowEnds() {
        for (int n = 0; n <= 6; n++) {
            FireFromFire x = Due.village(6, 5, 0b011011);
            booleans(x, n, 0b011011);
            DUE.is("a row of " + n, x.judge(0, 0, 0), n == 6 ? NO_WAY : 100 + n);
            booleans(x, 60, 0);
            x.tape(0, BOOLEANS, 60);
            for (int i = 0; i < n; i++) {
                x.item(0, 60 - n + i, 0b011011 >> i & 1);
            }
            DUE.is("the last " + n + " of 60", x.judge(0, 60 - n, 0), n == 6 ? NO_WAY : 100 + n);
        }
        FireFromFire y = Due.village(3, 5, 0b111);
        booleans(y, 2, 0b01);
        DUE.is("one that is otherwise ahead of the end", y.judge(0, 0, 0), 1);
    }

    // terms 4: "(or the place is below 0, or the TAPE holds nothing)": and none were looked at
    static void promise25PlaceOrNothing() {
        FireFromFire x = Due.village(2, 5, 0b11);
        DUE.each("judge(0, n, 0) of nothing", 100, n -> x.judge(0, n, 0), 0, -1, 1, MIN, MAX);
        booleans(x, 3, 0b111);
        DUE.is("place 0", x.judge(0, 0, 0), NO_WAY);
        DUE.is("place 1", x.judge(0, 1, 0), NO_WAY);
        DUE.is("place 2", x.judge(0, 2, 0), 101);
        DUE.each("judge(0, n, 0)", 100, n -> x.judge(0, n, 0), 3, 4, 60, MAX - 1, MAX, -1, -2, MIN);
    }

    // promise 26: "which HOUR it is"
    static void promise26WhichHour() {
        FireFromFire x = new FireFromFire();
        DUE.is("hour 0", x.image(), 0);
        x.go(1, 0);
        DUE.is("hour 1", x.image(), 1);
        Due.go(x, 2, 24);
        DUE.is("hour 25", x.image(), 25);
        DUE.is("once more", x.image(), 25);
    }

    // promise 27: "STATE: there is none"
    static void promise27State() {
        FireFromFire x = new FireFromFire();
        DUE.is("none", x.undo(), STATE);
        x.house(5, true);
        x.go(0, 0);
        DUE.is("still none", x.undo(), STATE);
        DUE.is("houses stay", x.count(0), 1);
        DUE.is("hour stays", x.count(4), 1);
        x.image();
        DUE.is("there is one", x.undo(), 1);
        DUE.is("and stays", x.undo(), 1);
        FireFromFire y = new FireFromFire();
        y.image();
        y.house(5, true);
        DUE.is("one without houses", y.undo(), 0);
        DUE.is("no houses", y.count(0), 0);
    }

    // promise 27: "All is as THE IMAGE": the latest, as often as one likes
    static void promise27Latest() {
        FireFromFire x = Due.village(1, 5, 1);
        x.image();
        x.wood(0, 6);
        x.image();
        x.wood(0, 7);
        for (int k = 0; k < 3; k++) {
            x.go(2, 1);
            DUE.is("undo", x.undo(), 0);
            DUE.is("wood", x.of(0, 0), 6);
            DUE.is("alight", x.of(0, 1), 1);
            x.wood(0, 8);
        }
    }

    // terms 3: THE IMAGE: "HOUSES with WOOD, ALIGHT or not": and there is room again
    static void promise27Houses() {
        FireFromFire x = Due.village(5, 5, 0b10101);
        x.image();
        DUE.is("the 6th", x.house(1, true), 5);
        for (int h = 0; h < 5; h++) {
            x.wood(h, 90 + h);
            x.light(h, h % 2 == 1);
        }
        x.undo();
        DUE.is("houses", x.count(0), 5);
        DUE.is("alight", Due.lit(x), 0b10101);
        for (int h = 0; h < 5; h++) {
            DUE.is("wood of " + h, x.of(h, 0), 5);
        }
        DUE.is("of(5, 0)", x.of(5, 0), NONE);
        DUE.is("the 6th anew", x.house(2, false), 5);
        DUE.is("its wood", x.of(5, 0), 2);
        DUE.is("the 7th", x.house(2, false), FULL);
    }

    // terms 3: THE IMAGE: "HOUSES": one that comes anew has nothing of the one that was there
    static void promise27HouseAnew() {
        FireFromFire x = Due.village(1, 5, 1, "horn 9 w<3");
        x.image();
        x.house(6, false);
        x.way(0, 1, 9);
        x.keeper(1, 4, 7, 9);
        x.go(0, 0);
        x.undo();
        x.house(8, false);
        int[] dues = {8, 0, 0, 0, 0, 0, NO_WAY, NO_WAY};
        for (int what = 0; what < 8; what++) {
            DUE.is("of(1, " + what + ")", x.of(1, what), dues[what]);
        }
        DUE.is("way", x.way(0, 1, 1), 0);
    }

    // terms 3: THE IMAGE: "who is under way"
    static void promise27WhoIsUnderWay() {
        FireFromFire x = Due.village(3, 5, 0b100, "horn 9 w<3");
        x.way(0, 2, 3);
        x.keeper(0, 1, 0, 0);
        int[][] dues = {{0, 0, NO_WAY, NO_WAY}, {1, 2, 2, NO_WAY}, {1, 1, 2, NO_WAY}, {2, 3, 2, 0},
            {2, 2, 2, 1}, {2, 1, 2, 2}, {0, 0, NO_WAY, NO_WAY}};
        for (int hour = 0; hour < 7; hour++) {
            x.image();
            Due.go(x, 0, hour < 3 ? 4 : 9);
            DUE.is("undo", x.undo(), hour);
            for (int k = 0; k < 4; k++) {
                DUE.is("of(0, " + (4 + k) + ") in hour " + hour, x.of(0, 4 + k), dues[hour][k]);
            }
            Due.go(x, 0, 1);
        }
    }

    // terms 3: THE IMAGE: "WAYS"
    static void promise27Ways() {
        FireFromFire x = Due.village(6, 5, 1);
        for (int a = 0; a < 6; a++) {
            for (int b = 0; b < a; b++) {
                x.way(a, b, (a + b) % 10);
            }
        }
        x.image();
        for (int a = 0; a < 6; a++) {
            for (int b = 0; b < a; b++) {
                x.way(a, b, 5);
            }
        }
        x.undo();
        for (int a = 0; a < 6; a++) {
            for (int b = 0; b < a; b++) {
                DUE.is("way " + a + " " + b, x.way(b, a, 0), (a + b) % 10);
            }
        }
    }

    // terms 3: THE IMAGE: "KEEPERS": KIND, v, and the ROW
    static void promise27Keepers() {
        FireFromFire x = Due.village(2, 5, 0b11);
        x.keeper(0, 5, 3, 0b10);
        x.keeper(1, 6, 9, 0);
        x.image();
        x.keeper(0, 5, 4, 0b01);
        x.keeper(1, 0, 0, 0);
        DUE.is("told by the new row", x.would(0, 0), 1);
        x.undo();
        DUE.is("kind of 0", x.of(0, 2), 5);
        DUE.is("v of 0", x.of(0, 3), 3);
        DUE.is("kind of 1", x.of(1, 2), 6);
        DUE.is("v of 1", x.of(1, 3), 9);
        DUE.is("told by its row", x.would(0, 0), 2);
    }

    // terms 3: THE IMAGE: "the WEATHER, the HOUR"
    static void promise27WeatherAndHour() {
        FireFromFire x = new FireFromFire();
        Due.go(x, 2, 3);
        x.image();
        Due.go(x, 1, 30);
        DUE.is("undo", x.undo(), 3);
        DUE.is("hour", x.count(4), 3);
        DUE.is("weather", x.count(5), 2);
    }

    // terms 3: THE IMAGE: "NIGHTS told by hand": and there is room again
    static void promise27Nights() {
        FireFromFire x = Due.village(1, 5, 1, "burn 1 w=2");
        for (int n = 1; n <= 11; n++) {
            x.night(n > 9 ? 2 : 0, 0);
        }
        x.image();
        DUE.is("none then", x.night(-1, 0), 0);
        x.night(2, 1);
        x.undo();
        DUE.is("nights", x.count(2), 11);
        DUE.is("weathers", x.hand(11, 0), 3);
        DUE.is("mishaps", x.hand(11, 6), 1);
        DUE.is("the 12th", x.night(0, 1), 12);
        DUE.is("its mishaps", x.hand(12, 6), 0);
        x.undo();
        DUE.is("nights", x.count(2), 11);
        DUE.is("the 12th, another one", x.night(0, 0), 12);
        DUE.is("its mishaps", x.hand(12, 6), 1);
        DUE.is("the 13th", x.night(0, 0), FULL);
    }

    // terms 3: THE IMAGE: "which LAND holds": none, one, or another one
    static void promise27Land() {
        FireFromFire x = Due.village(1, 5, 1);
        x.image();
        Due.land(x, "need 1 w<3;next 0 1 4");
        x.undo();
        DUE.is("none", x.told(0, 0, 3), 0);
        DUE.is("none", x.follows(0, 1), 0);
        Due.land(x, "need 2 w<3;next 0 1 5");
        x.image();
        Due.land(x, "need 3 w<3;next 0 1 6");
        DUE.is("the newest", x.told(0, 0, 3), 3);
        x.undo();
        DUE.is("the one ahead", x.told(0, 0, 3), 2);
        DUE.is("the one ahead", x.follows(0, 1), 5);
        DUE.is("a fault", Due.land(x, "needs"), -14);
        DUE.is("the one that held holds", x.told(0, 0, 3), 2);
        DUE.is("another one's number", Due.land(x, "need 4 w<3"), 3);
        DUE.is("it holds", x.told(0, 0, 3), 4);
        x.undo();
        DUE.is("the one ahead", x.told(0, 0, 3), 2);
    }

    // terms 3: THE IMAGE has no TEXT, no TAPES, no TRACE, and not how many LANDS there are
    static void promise27NothingElse() {
        FireFromFire x = Due.village(1, 5, 1);
        x.image();
        for (int n = 0; n < 5; n++) {
            Due.land(x, "need 1 w<3");
        }
        Due.feed(x, "need");
        Due.fill(x, 0, 2, 7, 8);
        x.act(0, 1, 1);
        x.undo();
        DUE.is("lands", x.count(1), 5);
        DUE.is("a 6th", x.land(), FULL);
        DUE.is("bytes", x.count(3), 4);
        DUE.is("a tape", x.read(0, 1), 8);
        DUE.is("bodies", x.count(7), 2);
        DUE.is("the trace", x.trace(1), 10);
    }

    private static void act(FireFromFire x, int kind, int act, int a, long due, int... bodies) {
        x.keeper(2, kind, 3, 0);
        String name = "act " + act + " of kind " + kind + " with " + a;
        DUE.is(name, x.act(2, act, a), due);
        DUE.is(name + ": bodies", x.count(7), bodies.length);
        for (int i = 0; i < bodies.length; i++) {
            DUE.is(name + ": body " + i, x.trace(i), bodies[i]);
        }
        DUE.is(name + ": no more", x.trace(bodies.length), NONE);
    }

    // terms 3: "the body of its KIND, or, if that has none, of the next KIND above that has one"
    static void promise28NextKindAbove() {
        FireFromFire x = Due.village(3, 5, 1);
        act(x, 0, 0, 5, 7, 10);
        act(x, 0, 1, 5, 4, 11, 10);
        act(x, 0, 2, 5, 8, 12, 11, 10);
        act(x, 1, 0, 5, 7, 10);
        act(x, 1, 1, 5, 2, 20, 11, 10);
        act(x, 1, 2, 5, 4, 12, 20, 11, 10);
        act(x, 2, 0, 5, 17, 30, 10);
        act(x, 2, 1, 5, 14, 11, 30, 10);
        act(x, 2, 2, 5, 28, 12, 11, 30, 10);
        act(x, 3, 0, 5, 7, 10);
        act(x, 3, 1, 5, 4, 11, 10);
        act(x, 3, 2, 5, 8, 40, 12, 11, 10, 11, 10);
    }

    // terms 3: "super.keeps(..): so from the KIND above the body's on"
    static void promise28Super() {
        FireFromFire x = Due.village(3, 5, 1);
        act(x, 4, 0, 5, -7, 50, 10);
        act(x, 4, 1, 5, -13, 51, 20, 11, 50, 10);
        act(x, 4, 2, 5, -26, 12, 51, 20, 11, 50, 10);
        act(x, 5, 0, 5, 17, 30, 10);
        act(x, 5, 1, 5, 14, 11, 30, 10);
        act(x, 5, 2, 5, 16, 60, 12, 11, 30, 10);
        act(x, 6, 0, 5, 4, 71, 10);
        act(x, 6, 1, 5, 5, 70, 11, 71, 10, 10);
        act(x, 6, 2, 5, 11, 40, 12, 70, 11, 71, 10, 10, 70, 11, 71, 10, 10);
    }

    // terms 3: "ACTS of the KEEPER of a HOUSE with x (wrapping)"
    static void promise28Wrapping() {
        FireFromFire x = Due.village(3, 5, 1);
        act(x, 0, 0, MAX - 2, MAX, 10);
        act(x, 0, 0, MAX - 1, MIN, 10);
        act(x, 0, 1, MIN + 1, MIN, 11, 10);
        act(x, 0, 1, MIN, MAX, 11, 10);
        act(x, 0, 2, 1 << 30, MAX - 1, 12, 11, 10);
        act(x, 0, 2, (1 << 30) + 1, MIN, 12, 11, 10);
        act(x, 2, 0, 1 << 30, (3 << 30) + 2, 30, 10);
        act(x, 4, 0, MAX - 1, MIN, 50, 10);
        act(x, 4, 0, MAX, -(MIN + 1), 50, 10);
        act(x, 5, 2, MIN, 2 * (3 * (MIN - 2) + 2 - 3), 60, 12, 11, 30, 10);
    }

    // promise 28: "0, and no TRACE then: no such HOUSE, act": the act
    static void promise28NoSuchAct() {
        FireFromFire x = Due.village(1, 5, 1);
        DUE.is("act(0, 0, 7)", x.act(0, 0, 7), 7);
        DUE.is("act(0, 2, 7)", x.act(0, 2, 7), 14);
        for (int act : new int[] {-1, 3, MIN, MAX}) {
            x.act(0, 2, 7);
            DUE.is("bodies", x.count(7), 3);
            DUE.is("act " + act, x.act(0, act, 7), 0);
            DUE.is("no bodies then", x.count(7), 0);
            DUE.each("trace(n) then", NONE, x::trace, 0, 1, 2);
        }
    }

    // promise 28: "0, and no TRACE then: no such HOUSE, act": the house
    static void promise28NoSuchHouse() {
        FireFromFire x = Due.village(2, 5, 1);
        DUE.is("act(1, 0, 7)", x.act(1, 0, 7), 8);
        for (int house : new int[] {-1, 2, 6, MIN, MAX}) {
            x.act(1, 2, 7);
            DUE.is("bodies", x.count(7), 3);
            DUE.is("house " + house, x.act(house, 2, 7), 0);
            DUE.is("no bodies then", x.count(7), 0);
            DUE.each("trace(n) then", NONE, x::trace, 0, 1, 2);
        }
        FireFromFire six = Due.village(6, 5, 1);
        DUE.is("act(5, 0, 7)", six.act(5, 0, 7), 12);
        DUE.is("act(6, 0, 7)", six.act(6, 0, 7), 0);
        DUE.is("of no house", new FireFromFire().act(0, 0, 7), 0);
    }

    // promise 29: "NONE"; terms 3: "the bodies that ran in the latest act()"
    static void promise29None() {
        FireFromFire x = Due.village(1, 5, 1);
        DUE.each("trace(n) ahead of all acts", NONE, x::trace, 0, 1, -1, 19, 20, MIN, MAX);
        x.act(0, 2, 1);
        int[] dues = {12, 11, 10};
        for (int i = 0; i < 3; i++) {
            DUE.is("trace(" + i + ")", x.trace(i), dues[i]);
        }
        DUE.each("trace(n)", NONE, x::trace, -1, 3, 19, 20, MIN, MAX);
        x.act(0, 0, 1);
        DUE.is("of a shorter act", x.trace(0), 10);
        DUE.each("trace(n) of a shorter act", NONE, x::trace, -1, 1, 2);
    }

    // terms 3: "the first 20 are kept": no act runs more than 12, all of them are kept
    static void promise29TheFirst20() {
        int most = 0;
        for (int kind = 0; kind <= 6; kind++) {
            for (int act = 0; act <= 2; act++) {
                FireFromFire x = Due.village(1, 5, 1);
                x.keeper(0, kind, 9, 0);
                x.act(0, act, 1);
                int ran = x.count(7);
                most = Math.max(most, ran);
                for (int i = 0; i < 22; i++) {
                    int got = x.trace(i);
                    boolean isBody = got >= 10 && got <= 71;
                    DUE.is("a body, or none behind all, at " + i, isBody ? 1 : got, i < ran && i < 20 ? 1 : NONE);
                }
            }
        }
        DUE.is("the most bodies", most, 12);
    }

    // promise 30: "one of KIND k (0 .. 6), or one under that: its KIND", "CAST"
    static void promise30Kinds() {
        int[] under = {0b0000001, 0b0000011, 0b0000101, 0b0001001, 0b0010011, 0b0100101, 0b1001001};
        for (int kind = 0; kind <= 6; kind++) {
            FireFromFire x = Due.village(6, 5, 1);
            x.keeper(5, kind, 0, 0);
            for (int k = 0; k <= 6; k++) {
                boolean is = (under[kind] >> k & 1) != 0;
                DUE.is("kind " + kind + " taken for " + k, x.taken(5, k), is ? kind : CAST);
            }
        }
    }

    // promise 30: "BAD: k"
    static void promise30Bad() {
        FireFromFire x = Due.village(1, 5, 1);
        x.keeper(0, 6, 0, 0);
        DUE.is("taken(0, 0)", x.taken(0, 0), 6);
        DUE.is("taken(0, 6)", x.taken(0, 6), 6);
        DUE.each("taken(0, n)", BAD, n -> x.taken(0, n), -1, 7, MIN, MAX);
    }

    // promise 30: "NOTHING: no such HOUSE"; "BAD: k; NOTHING": the first that its words name
    static void promise30Nothing() {
        FireFromFire x = Due.village(2, 5, 1);
        DUE.is("taken(1, 0)", x.taken(1, 0), 0);
        DUE.each("taken(n, 0)", NOTHING, n -> x.taken(n, 0), -1, 2, 6, MIN, MAX);
        DUE.each("taken(n, 6)", NOTHING, n -> x.taken(n, 6), -1, 2);
        DUE.each("taken(n, 7)", BAD, n -> x.taken(n, 7), -1, 0, 1, 2);
        DUE.each("taken(n, -1)", BAD, n -> x.taken(n, -1), -1, 0, 1, 2);
        DUE.is("of six", Due.village(6, 5, 1).taken(5, 0), 0);
        DUE.is("of six", Due.village(6, 5, 1).taken(6, 0), NOTHING);
    }

    // promise 31: "BAD"
    static void promise31Bad() {
        FireFromFire x = Due.village(2, 5, 1);
        x.act(0, 2, 1);
        DUE.is("count(0)", x.count(0), 2);
        DUE.is("count(7)", x.count(7), 3);
        DUE.each("count(n)", BAD, x::count, -1, 8, MIN, MAX);
    }

    // promise 31: "0 HOUSES, 1 LANDS, 2 NIGHTS, 3 bytes of THE TEXT": none, and the most
    static void promise31UpToTheMost() {
        FireFromFire x = new FireFromFire();
        for (int n = 0; n <= 7; n++) {
            DUE.is("houses", x.count(0), Math.min(n, 6));
            DUE.is("alight", x.count(6), Math.min(n, 6));
            x.house(5, true);
        }
        for (int n = 0; n <= 6; n++) {
            DUE.is("lands", x.count(1), Math.min(n, 5));
            Due.land(x, "need 1 w<3");
        }
        for (int n = 0; n <= 13; n++) {
            DUE.is("nights", x.count(2), Math.min(n, 12));
            x.night(0, 0);
        }
        FireFromFire y = new FireFromFire();
        for (int n = 0; n <= 102; n++) {
            DUE.is("bytes", y.count(3), Math.min(n, 100));
            y.feed('x', 1);
        }
    }

    // promise 31: "4 which HOUR it is, 5 the WEATHER, 6 HOUSES ALIGHT, 7 bodies"
    static void promise31TheRest() {
        FireFromFire x = Due.village(6, 5, 0b101000);
        DUE.is("alight", x.count(6), 2);
        x.go(2, 0b100000);
        DUE.is("hour", x.count(4), 1);
        DUE.is("weather", x.count(5), 2);
        DUE.is("alight", x.count(6), 1);
        x.keeper(5, 6, 0, 0);
        x.act(5, 2, 1);
        DUE.is("bodies", x.count(7), 12);
    }

    // terms 4: "TAPES 0 .. 5"; promise 32: "NONE: tape"
    static void promise32NoneTape() {
        FireFromFire x = new FireFromFire();
        DUE.each("tape(n, 4, 1)", 1, n -> x.tape(n, 4, 1), 0, 1, 2, 3, 4, 5);
        DUE.each("read(n, 0)", 0, n -> x.read(n, 0), 0, 1, 2, 3, 4, 5);
        DUE.each("tape(n, 4, 1)", NONE, n -> x.tape(n, 4, 1), -1, 6, MIN, MAX);
        DUE.each("tape(n, -1, 0)", NONE, n -> x.tape(n, -1, 0), -1, 6, MIN, MAX);
    }

    // promise 32: "BAD: sort"; terms 4: "a row of 0 bytes, 1 shorts, 2 ints, 3 longs, 4 booleans"
    static void promise32BadSort() {
        FireFromFire x = new FireFromFire();
        DUE.each("tape(0, n, 3)", 1, n -> x.tape(0, n, 3), 4, 3, 2, 1, 0, -1);
        DUE.is("nothing", x.read(0, 0), NO);
        x.tape(0, 2, 3);
        DUE.each("tape(0, n, 3)", BAD, n -> x.tape(0, n, 3), -2, 5, MIN, MAX);
        DUE.is("it stays", x.read(0, 2), 0);
    }

    // promise 32: "n (0 .. 60)", "BAD: .. n above 60"
    static void promise32BadN() {
        FireFromFire x = new FireFromFire();
        for (int sort = 0; sort <= 4; sort++) {
            int s = sort;
            DUE.is("60 of sort " + s, x.tape(0, s, 60), 1);
            DUE.is("the last", x.item(0, 59, 1), 1);
            DUE.each("tape(0, .., n)", BAD, n -> x.tape(0, s, n), 61, 62, MAX);
            DUE.is("it stays", x.read(0, 59), 1);
            DUE.is("no 61st", x.read(0, 60), NO);
            DUE.is("0 of sort " + s, x.tape(0, s, 0), 1);
            DUE.is("no item", x.read(0, 0), NO);
            DUE.is("but it is a row", x.item(0, 0, 1), PLACE);
        }
    }

    // promise 32: "SIZE"; terms 4: "SIZE (-14): a size below 0"
    static void promise32Size() {
        FireFromFire x = new FireFromFire();
        DUE.is("tape(0, 2, 1)", x.tape(0, 2, 1), 1);
        for (int sort = 0; sort <= 4; sort++) {
            int s = sort;
            DUE.each("tape(0, " + s + ", n)", SIZE, n -> x.tape(0, s, n), -1, -2, -60, MIN);
        }
        DUE.is("it stays", x.read(0, 0), 0);
        DUE.is("no item", x.read(0, 1), NO);
    }

    // promise 32: "all 0, or holds nothing (sort -1: n does not matter)"
    static void promise32AllZeroOrNothing() {
        FireFromFire x = new FireFromFire();
        for (int n : new int[] {0, 1, 60, 61, MAX, -1, MIN}) {
            x.tape(3, 1, 2);
            x.item(3, 0, 9);
            x.item(3, 1, 9);
            DUE.is("anew", x.tape(3, 1, 2), 1);
            DUE.is("0", x.read(3, 0), 0);
            DUE.is("0", x.read(3, 1), 0);
            x.item(3, 1, 9);
            DUE.is("tape(3, -1, " + n + ")", x.tape(3, -1, n), 1);
            DUE.is("nothing", x.item(3, 1, 9), NOTHING);
            DUE.is("nothing", x.read(3, 1), NO);
        }
        x.tape(3, 3, 60);
        for (int i = 0; i < 60; i++) {
            x.item(3, i, -1);
        }
        x.tape(3, 0, 1);
        x.tape(3, 3, 60);
        for (int i = 0; i < 60; i++) {
            DUE.is("0 at " + i, x.read(3, i), 0);
        }
    }

    // promise 32: "NONE: tape; BAD: sort, n above 60; SIZE": the first that its words name
    static void promise32InOrder() {
        FireFromFire x = new FireFromFire();
        DUE.is("NONE ahead of BAD", x.tape(6, 5, 61), NONE);
        DUE.is("NONE ahead of SIZE", x.tape(-1, 0, -1), NONE);
        DUE.is("BAD ahead of SIZE", x.tape(0, 5, -1), BAD);
        DUE.is("BAD ahead of SIZE", x.tape(0, -2, -1), BAD);
        DUE.is("SIZE", x.tape(0, 4, -1), SIZE);
    }

    // promise 33: "(its lowest bits, as many as an item has; ..)"
    static void promise33LowestBits() {
        int[] bits = {8, 16, 32};
        for (int sort = 0; sort < 3; sort++) {
            long half = 1L << bits[sort] - 1;
            FireFromFire x = new FireFromFire();
            x.tape(0, sort, 1);
            item(x, half - 1, half - 1);
            item(x, half, -half);
            item(x, 2 * half - 1, -1);
            item(x, 2 * half, 0);
            item(x, 2 * half + 1, 1);
            item(x, -half, -half);
            item(x, -half - 1, half - 1);
            item(x, Long.MAX_VALUE, -1);
            item(x, Long.MIN_VALUE, 0);
        }
        FireFromFire x = new FireFromFire();
        x.tape(0, 3, 1);
        item(x, Long.MAX_VALUE, Long.MAX_VALUE);
        item(x, -1, -1);
        item(x, Long.MIN_VALUE + 1, Long.MIN_VALUE + 1);
        item(x, Long.MIN_VALUE, Long.MIN_VALUE);
    }

    private static void item(FireFromFire x, long v, long due) {
        DUE.is("item(0, 0, " + v + ")", x.item(0, 0, v), 1);
        DUE.is("read behind " + v, x.read(0, 0), due);
    }

    // promise 33: "(..; booleans: whether v is not 0)"
    static void promise33Booleans() {
        FireFromFire x = new FireFromFire();
        x.tape(0, BOOLEANS, 1);
        for (long v : new long[] {1, 2, -1, 256, 1L << 32, Long.MIN_VALUE, Long.MAX_VALUE}) {
            item(x, v, 1);
            item(x, 0, 0);
        }
    }

    // promise 33: "NONE"
    static void promise33None() {
        FireFromFire x = new FireFromFire();
        x.tape(0, 2, 1);
        x.tape(5, 2, 1);
        DUE.is("item(0, 0, 1)", x.item(0, 0, 1), 1);
        DUE.is("item(5, 0, 1)", x.item(5, 0, 1), 1);
        DUE.each("item(n, 0, 1)", NONE, n -> x.item(n, 0, 1), -1, 6, MIN, MAX);
    }

    // promise 33: "NOTHING"; "NONE; NOTHING; PLACE": the first that its words name
    static void promise33Nothing() {
        FireFromFire x = new FireFromFire();
        DUE.each("item(n, 0, 1)", NOTHING, n -> x.item(n, 0, 1), 0, 1, 2, 3, 4, 5);
        DUE.each("item(0, n, 1)", NOTHING, n -> x.item(0, n, 1), -1, 60, MIN, MAX);
        DUE.each("item(6, n, 1)", NONE, n -> x.item(6, n, 1), -1, 0, 60);
        x.tape(0, 2, 0);
        DUE.is("a row of none is there", x.item(0, 0, 1), PLACE);
    }

    // promise 33: "PLACE"
    static void promise33Place() {
        FireFromFire x = new FireFromFire();
        x.tape(0, 2, 60);
        x.tape(1, 4, 1);
        DUE.is("item(0, 0, 7)", x.item(0, 0, 7), 1);
        DUE.is("item(0, 59, 8)", x.item(0, 59, 8), 1);
        DUE.each("item(0, n, 9)", PLACE, n -> x.item(0, n, 9), -1, 60, MIN, MAX);
        DUE.is("item(1, 0, 7)", x.item(1, 0, 7), 1);
        DUE.each("item(1, n, 9)", PLACE, n -> x.item(1, n, 9), -1, 1, 59, 60);
        DUE.is("read(0, 0)", x.read(0, 0), 7);
        DUE.is("read(0, 59)", x.read(0, 59), 8);
    }

    // promise 34: "NO: no such TAPE, nothing there, no such place"
    static void promise34No() {
        FireFromFire x = new FireFromFire();
        Due.fill(x, 0, 2, 7, 8, 9);
        Due.fill(x, 5, 4, 1);
        DUE.is("read(0, 0)", x.read(0, 0), 7);
        DUE.is("read(0, 2)", x.read(0, 2), 9);
        DUE.is("read(5, 0)", x.read(5, 0), 1);
        DUE.each("no such tape", NO, n -> x.read(n, 0), -1, 6, MIN, MAX);
        DUE.each("nothing there", NO, n -> x.read(n, 0), 1, 2, 3, 4);
        DUE.each("no such place", NO, n -> x.read(0, n), -1, 3, 59, 60, MIN, MAX);
        DUE.each("no such place", NO, n -> x.read(5, n), -1, 1);
    }

    // promise 35: "NONE: tapes"
    static void promise35None() {
        FireFromFire x = new FireFromFire();
        Due.fill(x, 0, 2, 1);
        Due.fill(x, 5, 2, 2);
        DUE.is("shift(0, 0, 5, 0, 1)", x.shift(0, 0, 5, 0, 1), 1);
        DUE.is("shift(5, 0, 0, 0, 1)", x.shift(5, 0, 0, 0, 1), 1);
        DUE.each("shift(n, 0, 0, 0, 1)", NONE, n -> x.shift(n, 0, 0, 0, 1), -1, 6, MIN, MAX);
        DUE.each("shift(0, 0, n, 0, 1)", NONE, n -> x.shift(0, 0, n, 0, 1), -1, 6, MIN, MAX);
    }

    // promise 35: "NOTHING"
    static void promise35Nothing() {
        FireFromFire x = new FireFromFire();
        Due.fill(x, 0, 2, 1);
        DUE.is("from nothing", x.shift(1, 0, 0, 0, 0), NOTHING);
        DUE.is("to nothing", x.shift(0, 0, 1, 0, 0), NOTHING);
        DUE.is("both", x.shift(1, 0, 1, 0, 0), NOTHING);
        x.tape(1, 2, 0);
        DUE.is("a row of none is there", x.shift(1, 0, 0, 0, 0), 0);
        DUE.is("a row of none is there", x.shift(0, 0, 1, 0, 0), 0);
    }

    // promise 35: "CAST: of unlike sorts"
    static void promise35Cast() {
        FireFromFire x = new FireFromFire();
        for (int a = 0; a <= 4; a++) {
            for (int b = 0; b <= 4; b++) {
                Due.fill(x, 0, a, 1);
                Due.fill(x, 1, b, 0);
                DUE.is("from sort " + a + " to " + b, x.shift(0, 0, 1, 0, 1), a == b ? 1 : CAST);
                DUE.is("there", x.read(1, 0), a == b ? 1 : 0);
            }
        }
        x.tape(0, 0, 0);
        x.tape(1, 1, 0);
        DUE.is("also of no item", x.shift(0, 0, 1, 0, 0), CAST);
    }

    // promise 35: "PLACE: n, i or j is below 0, or beyond either's end"
    static void promise35Place() {
        FireFromFire x = new FireFromFire();
        Due.fill(x, 0, 2, 1, 2, 3, 4, 5);
        Due.fill(x, 1, 2, 6, 7, 8);
        DUE.is("all of the other", x.shift(0, 2, 1, 0, 3), 3);
        DUE.is("the last of both", x.shift(0, 4, 1, 2, 1), 1);
        DUE.is("none at both ends", x.shift(0, 5, 1, 3, 0), 0);
        DUE.each("n", PLACE, n -> x.shift(0, 0, 1, 0, n), -1, 4, 5, 6, MIN, MAX);
        DUE.each("i", PLACE, i -> x.shift(0, i, 1, 0, 1), -1, 5, 6, MIN, MAX);
        DUE.each("j", PLACE, j -> x.shift(0, 0, 1, j, 1), -1, 3, 4, MIN, MAX);
        DUE.each("i, of none", PLACE, i -> x.shift(0, i, 1, 0, 0), -1, 6, MIN, MAX);
        DUE.each("j, of none", PLACE, j -> x.shift(0, 0, 1, j, 0), -1, 4, MIN, MAX);
        DUE.is("beyond the end of the one", x.shift(1, 1, 0, 0, 3), PLACE);
        DUE.is("beyond the end of the other", x.shift(0, 0, 1, 1, 3), PLACE);
        DUE.is("i and n wrap", x.shift(0, MAX, 1, 0, MAX), PLACE);
        DUE.is("j and n wrap", x.shift(0, 1, 1, MAX, MAX), PLACE);
        long[] dues = {3, 4, 5};
        for (int i = 0; i < 3; i++) {
            DUE.is("as it was", x.read(1, i), dues[i]);
        }
    }

    // promise 35: "NONE: tapes; NOTHING; CAST; PLACE": the first that its words name
    static void promise35InOrder() {
        FireFromFire x = new FireFromFire();
        Due.fill(x, 0, 2, 1);
        Due.fill(x, 1, 3, 1);
        DUE.is("NONE ahead of NOTHING", x.shift(6, 0, 2, 0, 1), NONE);
        DUE.is("NONE ahead of NOTHING", x.shift(2, 0, -1, 0, 1), NONE);
        DUE.is("NONE ahead of PLACE", x.shift(0, -1, 6, 0, 1), NONE);
        DUE.is("NOTHING ahead of CAST", x.shift(0, 0, 2, 0, 1), NOTHING);
        DUE.is("NOTHING ahead of PLACE", x.shift(2, -1, 0, 0, -1), NOTHING);
        DUE.is("CAST ahead of PLACE", x.shift(0, -1, 1, 9, -1), CAST);
    }

    // promise 35: "to another one (or the same) .., as they all were before: n"
    static void promise35TheSame() {
        for (int i = 0; i <= 6; i++) {
            for (int j = 0; j <= 6; j++) {
                FireFromFire x = new FireFromFire();
                Due.fill(x, 0, 1, 10, 11, 12, 13, 14, 15);
                int n = 6 - Math.max(i, j);
                DUE.is("shift(0, " + i + ", 0, " + j + ", " + n + ")", x.shift(0, i, 0, j, n), n);
                for (int k = 0; k < 6; k++) {
                    boolean isNew = k >= j && k < j + n;
                    DUE.is("item " + k, x.read(0, k), isNew ? 10 + k - j + i : 10 + k);
                }
            }
        }
        FireFromFire y = new FireFromFire();
        y.tape(2, 3, 60);
        y.tape(3, 3, 60);
        for (int k = 0; k < 60; k++) {
            y.item(2, k, Long.MAX_VALUE - k);
        }
        DUE.is("sixty", y.shift(2, 0, 3, 0, 60), 60);
        for (int k = 0; k < 60; k++) {
            DUE.is("there", y.read(3, k), Long.MAX_VALUE - k);
            DUE.is("and still here", y.read(2, k), Long.MAX_VALUE - k);
        }
    }
}
