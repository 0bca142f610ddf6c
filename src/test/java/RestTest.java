/** Promises 25 to 35: judging, the image, acts, what is counted, tapes. */
public final class RestTest {
    private static final Due DUE = new Due("RestTest");

    public static void main(String[] args) {
        judge();
        judgeNights();
        imageAndUndo();
        imageKeeps();
        imageDoesNotKeep();
        acts();
        actsOfWideNumbers();
        trace();
        taken();
        count();
        tape();
        items();
        shift();
        shiftOfSorts();
        DUE.end();
    }

    // promise 25
    private static void judge() {
        FireFromFire x = Due.village(3, 5, 0b101);
        Due.fill(x, 0, 4, 0, 1, 0, 1, 1);
        DUE.is("all as told", x.judge(0, 1, 0), -5);
        DUE.is("the first otherwise", x.judge(0, 0, 0), 0);
        DUE.is("the row ends", x.judge(0, 3, 0), 1);
        Due.fill(x, 0, 4, 0, 1, 0);
        DUE.is("two looked at", x.judge(0, 1, 0), 102);
        Due.fill(x, 0, 4, 1, 0);
        DUE.is("two looked at", x.judge(0, 0, 0), 102);
        Due.fill(x, 0, 4, 1);
        DUE.is("one looked at", x.judge(0, 0, 0), 101);
        DUE.is("at the end", x.judge(0, 1, 0), 100);
        DUE.is("beyond the end", x.judge(0, 2, 0), 100);
        DUE.is("far beyond", x.judge(0, Integer.MAX_VALUE, 0), 100);
        DUE.is("a place below 0", x.judge(0, -1, 0), 100);
        DUE.is("far below 0", x.judge(0, Integer.MIN_VALUE, 0), 100);
        DUE.is("a tape that holds nothing", x.judge(1, 0, 0), 100);
        x.tape(1, 4, 0);
        DUE.is("a row of none", x.judge(1, 0, 0), 100);
        Due.fill(x, 2, 3, 1, 0, 1);
        DUE.is("a row of longs", x.judge(2, 0, 0), -12);
        DUE.is("CAST, whatever the place", x.judge(2, -1, 0), -12);
        DUE.is("BAD ahead of CAST", x.judge(2, 0, 1), -2);
        DUE.is("n -1", x.judge(0, 0, -1), -2);
        DUE.is("tape 6", x.judge(6, 0, 9), -1);
        DUE.is("tape -1", x.judge(-1, 0, 0), -1);
        FireFromFire none = new FireFromFire();
        DUE.is("no houses, nothing there", none.judge(0, 0, 0), -5);
        none.tape(0, 4, 3);
        DUE.is("no houses", none.judge(0, -1, 0), -5);
    }

    // promise 25: behind nights
    private static void judgeNights() {
        FireFromFire x = Due.village(2, 5, 0b11);
        Due.land(x, "burn 3 i=0");
        x.night(0, 0);
        x.night(0, 2);
        Due.fill(x, 0, 4, 1, 1, 0, 0);
        DUE.is("behind none", x.judge(0, 0, 0), -5);
        DUE.is("behind one", x.judge(0, 0, 1), -5);
        DUE.is("behind two", x.judge(0, 0, 2), 0);
        DUE.is("none is left", x.judge(0, 2, 2), -5);
        DUE.is("behind three", x.judge(0, 2, 3), -2);
    }

    // promises 26, 27
    private static void imageAndUndo() {
        FireFromFire x = Due.village(2, 5, 0b01);
        DUE.is("no image", x.undo(), -3);
        x.go(0, 0);
        DUE.is("image in hour 1", x.image(), 1);
        x.go(2, 1);
        x.go(1, 0);
        DUE.is("undo", x.undo(), 1);
        DUE.is("hour", x.count(4), 1);
        DUE.is("weather", x.count(5), 0);
        DUE.is("alight", Due.lit(x), 1);
        x.go(1, 1);
        DUE.is("once more", x.undo(), 1);
        DUE.is("alight", Due.lit(x), 1);
        x.go(1, 0);
        DUE.is("another image", x.image(), 2);
        x.go(0, 0);
        DUE.is("undo by the latest", x.undo(), 2);
        DUE.is("weather", x.count(5), 1);
    }

    // promise 27: what the image keeps
    private static void imageKeeps() {
        FireFromFire x = Due.village(2, 5, 0b01);
        x.way(0, 1, 3);
        x.keeper(1, 1, 4, 6);
        Due.land(x, "need 1 w<3;horn 9 w<3");
        x.night(0, 1);
        x.go(0, 0);
        x.image();
        x.house(7, true);
        x.way(1, 2, 4);
        x.way(0, 1, 8);
        x.wood(0, 99);
        x.light(0, false);
        x.keeper(1, 5, 0, 0);
        x.night(1, 0);
        Due.land(x, "need 2 w<3");
        x.go(1, 0);
        DUE.is("undo", x.undo(), 1);
        DUE.is("houses", x.count(0), 2);
        DUE.is("house 2", x.of(2, 0), -1);
        DUE.is("wood", x.of(0, 0), 5);
        DUE.is("alight", Due.lit(x), 1);
        int[] dues = {5, 0, 1, 4, 1, 2, 0, -5};
        for (int what = 0; what < 8; what++) {
            DUE.is("of(1, " + what + ")", x.of(1, what), dues[what]);
        }
        DUE.is("nights", x.count(2), 1);
        DUE.is("the land that held", x.told(0, 0, 3), 1);
        DUE.is("way", x.way(0, 1, 3), 3);
        x.go(0, 0);
        x.go(0, 0);
        x.go(0, 0);
        x.image();
        x.go(0, 0);
        x.undo();
        DUE.is("one that brings", x.of(1, 4), 2);
        DUE.is("its horn", x.of(1, 7), 1);
        DUE.is("house 2 anew", x.house(1, false), 2);
        DUE.is("has no way", x.way(1, 2, 1), 0);
        houseAnew();
        FireFromFire y = Due.village(1, 5, 1);
        y.image();
        Due.land(y, "need 3 w<3");
        y.undo();
        DUE.is("no land held", y.told(0, 0, 3), 0);
    }

    /** A house that comes where one was that the image does not have. */
    private static void houseAnew() {
        FireFromFire x = Due.village(1, 5, 1);
        Due.land(x, "horn 9 w<3");
        x.image();
        x.house(6, false);
        x.way(0, 1, 9);
        x.keeper(1, 4, 7, 9);
        x.go(0, 0);
        x.undo();
        x.house(8, false);
        int[] dues = {8, 0, 0, 0, 0, 0, -5, -5};
        for (int what = 0; what < 8; what++) {
            DUE.is("anew: of(1, " + what + ")", x.of(1, what), dues[what]);
        }
    }

    // promise 27: what it doesn't
    private static void imageDoesNotKeep() {
        FireFromFire x = Due.village(1, 5, 1);
        x.image();
        Due.land(x, "need 3 w<3");
        Due.feed(x, "need");
        Due.fill(x, 0, 2, 7, 8);
        x.act(0, 1, 1);
        x.undo();
        DUE.is("lands", x.count(1), 1);
        DUE.is("bytes of the text", x.count(3), 4);
        DUE.is("a tape", x.read(0, 1), 8);
        DUE.is("bodies", x.count(7), 2);
        DUE.is("the trace", x.trace(0), 11);
        Due.feed(x, " 9 w<3");
        DUE.is("the next land's number", x.land(), 1);
        DUE.is("it holds", x.told(0, 0, 3), 9);
    }

    private static void act(FireFromFire x, int kind, int act, int x1, long due, int... bodies) {
        x.keeper(2, kind, 3, 0);
        String name = "act " + act + " of kind " + kind;
        DUE.is(name, x.act(2, act, x1), due);
        DUE.is(name + ": bodies", x.count(7), bodies.length);
        for (int i = 0; i < bodies.length; i++) {
            DUE.is(name + ": body " + i, x.trace(i), bodies[i]);
        }
        DUE.is(name + ": no more bodies", x.trace(bodies.length), -1);
    }

    // promises 28, 29: all acts of house 2 with 5, by a keeper with 3
    private static void acts() {
        FireFromFire x = Due.village(3, 5, 1);
        act(x, 0, 0, 5, 7, 10);
        act(x, 0, 1, 5, 4, 11, 10);
        act(x, 0, 2, 5, 8, 12, 11, 10);
        act(x, 1, 0, 5, 7, 10);
        act(x, 1, 1, 5, 2, 20, 11, 10);
        act(x, 1, 2, 5, 4, 12, 20, 11, 10);
        act(x, 2, 0, 5, 17, 30, 10);
        act(x, 2, 1, 5, 14, 11, 30, 10);
        act(x, 2, 2, 5, 28, 12, 11, 30, 10);
        act(x, 3, 0, 5, 7, 10);
        act(x, 3, 1, 5, 4, 11, 10);
        act(x, 3, 2, 5, 8, 40, 12, 11, 10, 11, 10);
        act(x, 3, 2, 9, 16, 40, 12, 11, 10, 11, 10);
        act(x, 4, 0, 5, -7, 50, 10);
        act(x, 4, 1, 5, -13, 51, 20, 11, 50, 10);
        act(x, 4, 2, 5, -26, 12, 51, 20, 11, 50, 10);
        act(x, 5, 0, 5, 17, 30, 10);
        act(x, 5, 1, 5, 14, 11, 30, 10);
        act(x, 5, 2, 5, 16, 60, 12, 11, 30, 10);
        act(x, 6, 0, 5, 4, 71, 10);
        act(x, 6, 1, 5, 5, 70, 11, 71, 10, 10);
        act(x, 6, 2, 5, 11, 40, 12, 70, 11, 71, 10, 10, 70, 11, 71, 10, 10);
    }

    // promise 28: wrapping
    private static void actsOfWideNumbers() {
        FireFromFire x = Due.village(3, 5, 1);
        act(x, 0, 0, Integer.MAX_VALUE, Integer.MIN_VALUE + 1L, 10);
        act(x, 2, 0, Integer.MAX_VALUE, Integer.MAX_VALUE, 30, 10);
        act(x, 2, 0, 1431655765, 1, 30, 10);
        act(x, 0, 2, 1 << 30, Integer.MAX_VALUE - 1L, 12, 11, 10);
        act(x, 0, 2, (1 << 30) + 1, Integer.MIN_VALUE, 12, 11, 10);
        act(x, 4, 0, Integer.MAX_VALUE - 1, Integer.MIN_VALUE, 50, 10);
    }

    // promises 28, 29: no such house, act
    private static void trace() {
        FireFromFire x = Due.village(1, 5, 1);
        DUE.is("no act yet", x.trace(0), -1);
        x.act(0, 2, 1);
        DUE.is("trace(2)", x.trace(2), 10);
        DUE.is("trace(3)", x.trace(3), -1);
        DUE.is("trace(-1)", x.trace(-1), -1);
        DUE.is("trace(MAX)", x.trace(Integer.MAX_VALUE), -1);
        DUE.is("act 3", x.act(0, 3, 1), 0);
        DUE.is("no trace then", x.trace(0), -1);
        DUE.is("no bodies then", x.count(7), 0);
        x.act(0, 2, 1);
        DUE.is("act -1", x.act(0, -1, 1), 0);
        DUE.is("no trace then", x.trace(0), -1);
        x.act(0, 2, 1);
        DUE.is("house 1", x.act(1, 0, 1), 0);
        DUE.is("no trace then", x.trace(0), -1);
        x.act(0, 2, 1);
        DUE.is("house -1", x.act(-1, 0, 1), 0);
        DUE.is("no bodies then", x.count(7), 0);
    }

    // promise 30
    private static void taken() {
        FireFromFire x = Due.village(1, 5, 1);
        int[] under = {0b0000001, 0b0000011, 0b0000101, 0b0001001, 0b0010011, 0b0100101, 0b1001001};
        for (int kind = 0; kind < 7; kind++) {
            x.keeper(0, kind, 0, 0);
            for (int k = 0; k < 7; k++) {
                boolean is = (under[kind] >> k & 1) != 0;
                DUE.is("kind " + kind + " taken for " + k, x.taken(0, k), is ? kind : -12);
            }
        }
        DUE.is("taken(0, 7)", x.taken(0, 7), -2);
        DUE.is("taken(0, -1)", x.taken(0, -1), -2);
        DUE.is("taken(1, 0)", x.taken(1, 0), -11);
        DUE.is("taken(-1, 0)", x.taken(-1, 0), -11);
        DUE.is("BAD ahead of NOTHING", x.taken(1, 7), -2);
    }

    // promise 31
    private static void count() {
        FireFromFire x = Due.village(4, 5, 0b0110);
        Due.land(x, "need 1 w<3");
        Due.land(x, "need 2 w<3");
        x.night(0, 0);
        x.night(0, 0);
        x.night(0, 0);
        Due.feed(x, "needs");
        x.go(2, 0);
        x.act(0, 1, 0);
        int[] dues = {4, 2, 3, 5, 1, 2, 2, 2};
        for (int what = 0; what < 8; what++) {
            DUE.is("count(" + what + ")", x.count(what), dues[what]);
        }
        DUE.is("count(8)", x.count(8), -2);
        DUE.is("count(-1)", x.count(-1), -2);
    }

    // promise 32
    private static void tape() {
        FireFromFire x = new FireFromFire();
        DUE.is("60 longs", x.tape(5, 3, 60), 1);
        DUE.is("all 0", x.read(5, 59), 0);
        DUE.is("not 61", x.read(5, 60), Long.MIN_VALUE);
        x.item(5, 59, 7);
        DUE.is("anew", x.tape(5, 2, 60), 1);
        DUE.is("all 0 again", x.read(5, 59), 0);
        DUE.is("none", x.tape(0, 4, 0), 1);
        DUE.is("a row of none has no item", x.item(0, 0, 1), -13);
        DUE.is("holds nothing", x.tape(5, -1, -99), 1);
        DUE.is("so no item", x.item(5, 0, 1), -11);
        DUE.is("holds nothing, 61", x.tape(5, -1, 61), 1);
        DUE.is("tape 6", x.tape(6, 9, -1), -1);
        DUE.is("tape -1", x.tape(-1, 0, 1), -1);
        DUE.is("sort 5", x.tape(0, 5, 1), -2);
        DUE.is("sort -2", x.tape(0, -2, 1), -2);
        DUE.is("n 61", x.tape(0, 0, 61), -2);
        DUE.is("n -1", x.tape(0, 0, -1), -14);
        DUE.is("n MIN", x.tape(0, 0, Integer.MIN_VALUE), -14);
        DUE.is("BAD ahead of SIZE", x.tape(0, 5, -1), -2);
        DUE.is("it stays", x.item(0, 0, 1), -13);
    }

    // promises 33, 34
    private static void items() {
        FireFromFire x = new FireFromFire();
        long wide = 0x1234_5678_9abc_def0L;
        long[][] dues = {{(byte) wide, -1, 127, -128, 2}, {(short) wide, -1, 127, 128, 2},
            {(int) wide, -1, 127, 128, 2}, {wide, -1, 127, 128, 2}, {1, 1, 1, 1, 1}};
        long[] given = {wide, -1, 127, 128, 2};
        for (int sort = 0; sort < 5; sort++) {
            Due.fill(x, sort, sort, given);
            for (int i = 0; i < 5; i++) {
                DUE.is("sort " + sort + ", item " + i, x.read(sort, i), dues[sort][i]);
            }
        }
        DUE.is("a boolean 0", x.item(4, 0, 0), 1);
        DUE.is("is 0", x.read(4, 0), 0);
        DUE.is("a boolean of high bits", x.item(4, 0, 1L << 40), 1);
        DUE.is("is 1", x.read(4, 0), 1);
        DUE.is("an int of high bits", x.item(2, 0, 1L << 40), 1);
        DUE.is("is 0", x.read(2, 0), 0);
        DUE.is("item(6, ..)", x.item(6, 0, 0), -1);
        DUE.is("item(-1, ..)", x.item(-1, 0, 0), -1);
        DUE.is("nothing there", x.item(5, -1, 0), -11);
        DUE.is("place 5 of 5", x.item(0, 5, 0), -13);
        DUE.is("place -1", x.item(0, -1, 0), -13);
        DUE.is("read(6, 0)", x.read(6, 0), Long.MIN_VALUE);
        DUE.is("read(-1, 0)", x.read(-1, 0), Long.MIN_VALUE);
        DUE.is("read of nothing", x.read(5, 0), Long.MIN_VALUE);
        DUE.is("read(0, 5)", x.read(0, 5), Long.MIN_VALUE);
        DUE.is("read(0, -1)", x.read(0, -1), Long.MIN_VALUE);
    }

    private static void row(String when, FireFromFire x, int tape, long... dues) {
        for (int i = 0; i < dues.length; i++) {
            DUE.is(when + ": read(" + tape + ", " + i + ")", x.read(tape, i), dues[i]);
        }
    }

    // promise 35
    private static void shift() {
        FireFromFire x = new FireFromFire();
        Due.fill(x, 0, 2, 1, 2, 3, 4, 5);
        Due.fill(x, 1, 2, 6, 7, 8);
        DUE.is("to another", x.shift(0, 1, 1, 0, 2), 2);
        row("to another", x, 1, 2, 3, 8);
        row("from", x, 0, 1, 2, 3, 4, 5);
        DUE.is("upwards in the same", x.shift(0, 0, 0, 1, 4), 4);
        row("upwards", x, 0, 1, 1, 2, 3, 4);
        DUE.is("downwards in the same", x.shift(0, 1, 0, 0, 4), 4);
        row("downwards", x, 0, 1, 2, 3, 4, 4);
        DUE.is("none at the ends", x.shift(0, 5, 1, 3, 0), 0);
        DUE.is("none beyond an end", x.shift(0, 6, 1, 0, 0), -13);
        DUE.is("none beyond the other's end", x.shift(0, 0, 1, 4, 0), -13);
        DUE.is("n -1", x.shift(0, 0, 1, 0, -1), -13);
        DUE.is("i -1", x.shift(0, -1, 1, 0, 1), -13);
        DUE.is("j -1", x.shift(0, 0, 1, -1, 1), -13);
        DUE.is("beyond its end", x.shift(0, 4, 1, 0, 2), -13);
        DUE.is("beyond the other's", x.shift(0, 0, 1, 2, 2), -13);
        int most = Integer.MAX_VALUE;
        DUE.is("i MAX", x.shift(0, most, 1, 0, 1), -13);
        DUE.is("j MAX", x.shift(0, 0, 1, most, 1), -13);
        DUE.is("n MAX", x.shift(0, 1, 1, 1, most), -13);
        row("as it was", x, 1, 2, 3, 8);
    }

    // promise 35: tapes that are not alike
    private static void shiftOfSorts() {
        FireFromFire x = new FireFromFire();
        Due.fill(x, 0, 2, 1, 2, 3);
        Due.fill(x, 1, 3, 1, 2, 3);
        DUE.is("unlike sorts", x.shift(0, 0, 1, 0, 1), -12);
        DUE.is("CAST ahead of PLACE", x.shift(0, 0, 1, 0, -1), -12);
        DUE.is("from nothing", x.shift(2, 0, 1, 0, 1), -11);
        DUE.is("to nothing", x.shift(0, 0, 2, 0, -1), -11);
        DUE.is("from tape 6", x.shift(6, 0, 2, 0, 1), -1);
        DUE.is("to tape 6", x.shift(0, 0, 6, 0, 1), -1);
        DUE.is("to tape -1", x.shift(2, 0, -1, 0, 1), -1);
        for (int sort = 0; sort < 5; sort++) {
            Due.fill(x, 3, sort, 1, 0, 1);
            Due.fill(x, 4, sort, 0, 0, 0);
            DUE.is("sort " + sort, x.shift(3, 0, 4, 0, 3), 3);
            row("sort " + sort, x, 4, 1, 0, 1);
        }
    }
}
