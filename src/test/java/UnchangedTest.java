import java.util.ArrayList;
import java.util.List;
import java.util.function.Supplier;
import java.util.function.ToLongFunction;

/**
 * "What is answered so changes nothing; what is asked changes nothing.": of each call that can be
 * refused each refusal, and each call that asks. Two objects are made alike, one of them is called,
 * and then all that can be seen of both is compared; what can be seen is looked at in parts, on
 * new objects for each, so that no object is used for more than 512 calls.
 */
public final class UnchangedTest {
    private static final Due DUE = new Due("UnchangedTest");
    private static final int MIN = Due.MIN, MAX = Due.MAX;
    private static final int NONE = Due.NONE, BAD = Due.BAD, STATE = Due.STATE, FULL = Due.FULL;
    private static final int NOTHING = Due.NOTHING, CAST = Due.CAST, PLACE = Due.PLACE, SIZE = Due.SIZE;
    private static final long NO = Due.NO;
    private static final int ROW = (1 << 24) - 1;

    public static void main(String[] args) {
        DUE.runAll(UnchangedTest.class);
    }

    /** How a call is made on an object; its answer. */
    interface On extends ToLongFunction<FireFromFire> {
    }

    // ---- objects that are made alike

    /**
     * Three houses: one that is told by a row when it keeps its fire, one of which somebody goes,
     * one of which somebody brings fire; lands, a text begun, nights, an image, tapes, a trace.
     */
    private static FireFromFire some() {
        FireFromFire x = new FireFromFire();
        x.house(70, true);
        x.house(12, false);
        x.house(9, false);
        x.way(0, 1, 5);
        x.way(0, 2, 2);
        x.keeper(0, 5, 3, 0xfff7f3);
        x.keeper(1, 1, 2, 0);
        x.keeper(2, 4, 1, 5);
        Due.land(x, "need 9 w<3");
        Due.land(x, "out 30 w<3;burn 1 w=0;burn 2 w>0;horn 4 h<20;need 3 i<2;next 0 1 3;next 1 2 6");
        x.night(2, 1);
        x.go(1, 0);
        x.image();
        x.way(1, 2, 7);
        x.wood(1, 44);
        x.night(0, 0);
        Due.land(x, "out 20 w<3;burn 1 w<3;horn 6 h<21;need 4 i>0;need 2 i=0;next 0 1 4;next 2 0 6");
        x.go(0, 0);
        x.go(2, 0);
        Due.feed(x, "need 5 w");
        Due.fill(x, 0, 4, 1, 0, 1, 0);
        Due.fill(x, 1, 2, -7, 8, 9);
        Due.fill(x, 2, 0, 100);
        x.tape(3, 3, 0);
        Due.fill(x, 4, 4, 1, 1);
        x.act(0, 2, 7);
        return x;
    }

    /** As many houses, nights, lands and bytes as there may be. */
    private static FireFromFire full() {
        FireFromFire x = Due.village(6, 20, 0b010101);
        for (int h = 1; h < 6; h++) {
            x.way(h - 1, h, h);
            x.keeper(h, h, 2, 0xffff);
        }
        for (int n = 1; n <= 5; n++) {
            Due.land(x, "burn " + n + " w<3;need " + n + " i=" + n + ";horn 9 w<3");
        }
        for (int n = 1; n <= 11; n++) {
            x.night(n % 3, n);
        }
        x.go(1, 0);
        x.image();
        x.night(2, 32);
        x.go(0, 0);
        Due.feed(x, "need 1 w<3;".repeat(9) + "x");
        x.act(5, 1, 3);
        return x;
    }

    /** The hour in which none goes any more. */
    private static FireFromFire last() {
        FireFromFire x = Due.village(2, 20, 0b11);
        Due.go(x, 1, 9990);
        x.image();
        Due.go(x, 2, 9);
        return x;
    }

    // ---- what can be seen

    private static void number(List<Long> seen, long... some) {
        for (long one : some) {
            seen.add(one);
        }
    }

    private static void houses(FireFromFire x, List<Long> seen) {
        for (int what = 0; what <= 7; what++) {
            number(seen, x.count(what));
        }
        for (int k = 0; k < 48; k++) {
            number(seen, x.of(k / 8, k % 8));
        }
        for (int i = 0; i <= 20; i++) {
            number(seen, x.trace(i));
        }
    }

    private static List<Long> now(FireFromFire x) {
        List<Long> seen = new ArrayList<>();
        houses(x, seen);
        for (int k = 0; k < 36; k++) {
            number(seen, x.told(k / 12, k / 4 % 3, k % 4));
        }
        for (int k = 0; k < 9; k++) {
            number(seen, x.follows(k / 3, k % 3), x.would(k / 3, k % 3));
        }
        for (int n = 0; n <= 12; n++) {
            for (int what = 0; what <= 8; what++) {
                number(seen, x.hand(n, what));
            }
        }
        number(seen, x.lasts(), x.apart(), x.freed(), x.where(3), x.law(9), x.ends(2, 0, 0), x.ends(2, 1, 0));
        for (int h = 0; h < 6; h++) {
            number(seen, x.quickest(h, 0), x.quickest(h, 1), x.match(h, 30), x.asked(h));
        }
        for (int k = 0; k < 12; k++) {
            number(seen, x.judge(k % 6, k / 6, k / 6));
        }
        return seen;
    }

    /** Goes on from how all is: ways, rows, the land and who is under way show in what comes. */
    private static List<Long> later(FireFromFire x) {
        List<Long> seen = new ArrayList<>();
        for (int hour = 0; hour < 24; hour++) {
            number(seen, x.would(0, 0), x.would(1, 1), x.go(hour % 3, 0), x.of(1, 4), x.of(2, 4), x.of(2, 5),
                    x.of(2, 7), x.of(0, 0));
        }
        for (int a = 0; a < 6; a++) {
            for (int b = 0; b < a; b++) {
                number(seen, x.way(a, b, 0));
            }
        }
        return seen;
    }

    private static List<Long> image(FireFromFire x) {
        List<Long> seen = new ArrayList<>();
        number(seen, x.undo());
        seen.addAll(now(x));
        return seen;
    }

    private static List<Long> laterThanImage(FireFromFire x) {
        List<Long> seen = new ArrayList<>();
        number(seen, x.undo());
        seen.addAll(later(x));
        return seen;
    }

    /** All tapes, and what the text becomes when it is ended. */
    private static List<Long> tapesAndText(FireFromFire x) {
        List<Long> seen = new ArrayList<>();
        for (int tape = 0; tape <= 5; tape++) {
            for (int i = -1; i <= 5; i++) {
                number(seen, x.read(tape, i));
            }
            for (int other = 0; other <= 5; other++) {
                number(seen, x.shift(tape, 0, other, 0, 0));
            }
            number(seen, x.item(tape, 0, 999), x.read(tape, 0));
        }
        number(seen, x.feed('<' << 8 | '3', 2), x.land(), x.count(1), x.count(3), x.told(0, 0, 3), x.follows(0, 1));
        number(seen, x.undo(), x.told(0, 0, 3), x.house(1, true), x.count(0));
        return seen;
    }

    private static List<Long> part(int part, FireFromFire x) {
        switch (part) {
            case 0:
                return now(x);
            case 1:
                return later(x);
            case 2:
                return image(x);
            case 3:
                return laterThanImage(x);
            default:
                return tapesAndText(x);
        }
    }

    private static void unchanged(String what, Supplier<FireFromFire> made, On call) {
        for (int part = 0; part < 5; part++) {
            FireFromFire x = made.get();
            call.applyAsLong(x);
            boolean isSame = part(part, x).equals(part(part, made.get()));
            DUE.is(what + ": all as it was, part " + part, isSame ? 1 : 0, 1);
        }
    }

    private static void refused(String what, Supplier<FireFromFire> made, long due, On call) {
        DUE.is(what, call.applyAsLong(made.get()), due);
        unchanged(what, made, call);
    }

    /** Numbers that there is no house of three for. */
    private static final int[] NO_HOUSE = {-1, 3, MIN, MAX};

    // promise 2: BAD, FULL
    static void promise2House() {
        refused("house(-1)", UnchangedTest::some, BAD, x -> x.house(-1, true));
        refused("house(100)", UnchangedTest::some, BAD, x -> x.house(100, false));
        refused("house(0), of six", UnchangedTest::full, FULL, x -> x.house(0, true));
        refused("house(99), of six", UnchangedTest::full, FULL, x -> x.house(99, false));
        refused("house(100), of six", UnchangedTest::full, BAD, x -> x.house(100, true));
    }

    // promise 4: NONE, BAD
    static void promise4Wood() {
        for (int h : NO_HOUSE) {
            refused("wood(" + h + ", 5)", UnchangedTest::some, NONE, x -> x.wood(h, 5));
        }
        for (int n : new int[] {-1, 100, MIN, MAX}) {
            refused("wood(1, " + n + ")", UnchangedTest::some, BAD, x -> x.wood(1, n));
        }
    }

    // promise 5: NONE
    static void promise5Light() {
        for (int h : NO_HOUSE) {
            refused("light(" + h + ", true)", UnchangedTest::some, NONE, x -> x.light(h, true));
            refused("light(" + h + ", false)", UnchangedTest::some, NONE, x -> x.light(h, false));
        }
        refused("light(6, true)", UnchangedTest::full, NONE, x -> x.light(6, true));
    }

    // promise 6: NONE, BAD
    static void promise6Way() {
        for (int h : NO_HOUSE) {
            refused("way(" + h + ", 0, 5)", UnchangedTest::some, NONE, x -> x.way(h, 0, 5));
            refused("way(0, " + h + ", 5)", UnchangedTest::some, NONE, x -> x.way(0, h, 5));
        }
        refused("way(3, 4, 5)", UnchangedTest::some, NONE, x -> x.way(3, 4, 5));
        refused("way(1, 1, 5)", UnchangedTest::some, BAD, x -> x.way(1, 1, 5));
        for (int n : new int[] {-1, 10, MIN, MAX}) {
            refused("way(0, 1, " + n + ")", UnchangedTest::some, BAD, x -> x.way(0, 1, n));
        }
    }

    // promise 7: BAD, FULL
    static void promise7Feed() {
        for (int n : new int[] {-1, 5, MIN, MAX}) {
            refused("feed(.., " + n + ")", UnchangedTest::some, BAD, x -> x.feed('<', n));
        }
        for (int n = 1; n <= 4; n++) {
            int bytes = n;
            refused("feed(.., " + n + "), of 100", UnchangedTest::full, FULL, x -> x.feed('<', bytes));
        }
        refused("feed(.., 5), of 100", UnchangedTest::full, BAD, x -> x.feed('<', 5));
    }

    // promise 7: FULL: none of the bytes come, also where some of them would have had room
    static void promise7FeedNoneOfThem() {
        String land = "need 1 w<3;".repeat(8) + "burn 12 w<33";
        DUE.is("bytes", land.length(), 100);
        for (int room = 1; room <= 3; room++) {
            FireFromFire x = Due.village(1, 5, 1);
            Due.feed(x, land.substring(0, 100 - room));
            for (int n = room + 1; n <= 4; n++) {
                DUE.is("feed of " + n + " where " + room + " has room", x.feed(-1, n), FULL);
            }
            DUE.is("bytes", x.count(3), 100 - room);
            DUE.is("its end", Due.land(x, land.substring(100 - room)), 0);
            DUE.is("is as it was", x.told(0, 0, 1), 12);
        }
    }

    // promise 8: FULL (THE TEXT stays)
    static void promise8Land() {
        refused("land(), of five", UnchangedTest::full, FULL, x -> x.land());
    }

    // promise 8: -10 less the FAULT: THE TEXT is empty then, and nothing else is changed
    static void promise8LandFault() {
        for (int part = 0; part < 5; part++) {
            FireFromFire x = some();
            DUE.is("land()", x.land(), -18);
            Due.feed(x, "need 5 w");
            boolean isSame = part(part, x).equals(part(part, some()));
            DUE.is("a fault: all as it was, part " + part, isSame ? 1 : 0, 1);
        }
    }

    // promise 11: NONE, BAD
    static void promise11Keeper() {
        for (int h : NO_HOUSE) {
            refused("keeper(" + h + ", ..)", UnchangedTest::some, NONE, x -> x.keeper(h, 2, 5, 1));
        }
        for (int kind : new int[] {-1, 7, MIN, MAX}) {
            refused("keeper(0, " + kind + ", ..)", UnchangedTest::some, NONE, x -> x.keeper(0, kind, 5, 1));
        }
        for (int v : new int[] {-1, 10, MIN, MAX}) {
            refused("keeper(0, 2, " + v + ", 1)", UnchangedTest::some, BAD, x -> x.keeper(0, 2, v, 1));
        }
        for (int hours : new int[] {-1, ROW + 1, MIN, MAX}) {
            refused("keeper(0, 5, 5, " + hours + ")", UnchangedTest::some, BAD, x -> x.keeper(0, 5, 5, hours));
        }
    }

    // promise 13: NONE, BAD
    static void promise13Go() {
        for (int weather : new int[] {-1, 3, MIN, MAX}) {
            refused("go(" + weather + ", 0)", UnchangedTest::some, NONE, x -> x.go(weather, 0));
        }
        for (int mishaps : new int[] {-1, 8, MIN, MAX}) {
            refused("go(2, " + mishaps + ")", UnchangedTest::some, BAD, x -> x.go(2, mishaps));
        }
        refused("go(2, 64), of six", UnchangedTest::full, BAD, x -> x.go(2, 64));
        refused("go(0, 1), of none", FireFromFire::new, BAD, x -> x.go(0, 1));
    }

    // promise 13: STATE (behind 9999 hours, so beyond the 512 calls)
    static void promise13GoState() {
        FireFromFire x = last();
        FireFromFire y = last();
        for (int k = 0; k < 6; k++) {
            DUE.is("go", x.go(k % 3, k / 3), STATE);
        }
        DUE.is("all as it was", now(x).equals(now(y)) ? 1 : 0, 1);
        DUE.is("the image, too", image(x).equals(image(y)) ? 1 : 0, 1);
    }

    // promise 14: NONE, BAD, FULL
    static void promise14Night() {
        for (int weather : new int[] {-2, 3, MIN, MAX}) {
            refused("night(" + weather + ", 0)", UnchangedTest::some, NONE, x -> x.night(weather, 0));
        }
        for (int mishaps : new int[] {-1, 64, MIN, MAX}) {
            refused("night(1, " + mishaps + ")", UnchangedTest::some, BAD, x -> x.night(1, mishaps));
            refused("night(1, " + mishaps + "), of 12", UnchangedTest::full, BAD, x -> x.night(1, mishaps));
        }
        refused("night(1, 0), of 12", UnchangedTest::full, FULL, x -> x.night(1, 0));
        refused("night(2, 63), of 12", UnchangedTest::full, FULL, x -> x.night(2, 63));
    }

    // promise 27: STATE
    static void promise27Undo() {
        FireFromFire x = Due.village(2, 5, 0b01, "need 3 w<3");
        FireFromFire y = Due.village(2, 5, 0b01, "need 3 w<3");
        DUE.is("undo", x.undo(), STATE);
        DUE.is("all as it was", now(x).equals(now(y)) ? 1 : 0, 1);
        refused("undo of a new object", FireFromFire::new, STATE, z -> z.undo());
    }

    // promise 28: 0, and no TRACE then: and nothing else is changed
    static void promise28Act() {
        On[] calls = {x -> x.act(3, 0, 7), x -> x.act(-1, 1, 7), x -> x.act(0, -1, 7), x -> x.act(0, 3, 7),
            x -> x.act(MAX, MAX, MAX)};
        for (On call : calls) {
            for (int part = 0; part < 5; part++) {
                FireFromFire x = some();
                DUE.is("act", call.applyAsLong(x), 0);
                DUE.is("no trace", x.trace(0), NONE);
                x.act(0, 2, 7);
                DUE.is("all as it was, part " + part, part(part, x).equals(part(part, some())) ? 1 : 0, 1);
            }
        }
    }

    // promise 32: NONE, BAD, SIZE
    static void promise32Tape() {
        for (int tape : new int[] {-1, 6, MIN, MAX}) {
            refused("tape(" + tape + ", 2, 3)", UnchangedTest::some, NONE, x -> x.tape(tape, 2, 3));
            refused("tape(" + tape + ", -1, 3)", UnchangedTest::some, NONE, x -> x.tape(tape, -1, 3));
        }
        for (int tape = 0; tape <= 5; tape++) {
            int t = tape;
            refused("tape(" + t + ", -2, 3)", UnchangedTest::some, BAD, x -> x.tape(t, -2, 3));
            refused("tape(" + t + ", 5, 3)", UnchangedTest::some, BAD, x -> x.tape(t, 5, 3));
            refused("tape(" + t + ", 2, 61)", UnchangedTest::some, BAD, x -> x.tape(t, 2, 61));
            refused("tape(" + t + ", 2, -1)", UnchangedTest::some, SIZE, x -> x.tape(t, 2, -1));
            refused("tape(" + t + ", 4, MIN)", UnchangedTest::some, SIZE, x -> x.tape(t, 4, MIN));
        }
    }

    // promise 33: NONE, NOTHING, PLACE
    static void promise33Item() {
        for (int tape : new int[] {-1, 6, MIN, MAX}) {
            refused("item(" + tape + ", 0, 77)", UnchangedTest::some, NONE, x -> x.item(tape, 0, 77));
        }
        refused("item(5, 0, 77)", UnchangedTest::some, NOTHING, x -> x.item(5, 0, 77));
        for (int i : new int[] {-1, 3, 59, 60, MIN, MAX}) {
            refused("item(1, " + i + ", 77)", UnchangedTest::some, PLACE, x -> x.item(1, i, 77));
        }
        refused("item(3, 0, 77)", UnchangedTest::some, PLACE, x -> x.item(3, 0, 77));
    }

    // promise 35: NONE, NOTHING, CAST, PLACE
    static void promise35Shift() {
        for (int tape : new int[] {-1, 6, MIN, MAX}) {
            refused("shift(" + tape + ", ..)", UnchangedTest::some, NONE, x -> x.shift(tape, 0, 0, 0, 1));
            refused("shift(.., " + tape + ", ..)", UnchangedTest::some, NONE, x -> x.shift(0, 0, tape, 0, 1));
        }
        refused("from nothing", UnchangedTest::some, NOTHING, x -> x.shift(5, 0, 0, 0, 1));
        refused("to nothing", UnchangedTest::some, NOTHING, x -> x.shift(0, 0, 5, 0, 1));
        refused("ints to booleans", UnchangedTest::some, CAST, x -> x.shift(1, 0, 0, 0, 1));
        refused("ints to bytes", UnchangedTest::some, CAST, x -> x.shift(1, 0, 2, 0, 1));
        for (int n : new int[] {-1, 3, 5, MIN, MAX}) {
            refused("n " + n, UnchangedTest::some, PLACE, x -> x.shift(0, 1, 4, 0, n));
            refused("i " + n, UnchangedTest::some, PLACE, x -> x.shift(0, n, 4, 0, 2));
            refused("j " + n, UnchangedTest::some, PLACE, x -> x.shift(0, 0, 4, n, 2));
            refused("j " + n + " in the same", UnchangedTest::some, PLACE, x -> x.shift(0, 0, 0, n, 3));
        }
    }

    /** Whatever a call that asks answers, told or refused. */
    private static void asks(String what, On... calls) {
        for (int k = 0; k < calls.length; k++) {
            unchanged(what + ", call " + k, UnchangedTest::some, calls[k]);
            unchanged(what + ", call " + k, UnchangedTest::full, calls[k]);
            unchanged(what + ", call " + k, FireFromFire::new, calls[k]);
        }
    }

    // promises 3, 9, 10, 12
    static void promise3And9To12Asked() {
        asks("of", x -> x.of(1, 4), x -> x.of(9, 0), x -> x.of(0, 8));
        asks("told", x -> x.told(1, 2, 3), x -> x.told(9, 0, 0), x -> x.told(0, 3, 0), x -> x.told(0, 0, 4));
        asks("follows", x -> x.follows(0, 1), x -> x.follows(3, 0), x -> x.follows(0, -1));
        asks("would", x -> x.would(0, 0), x -> x.would(2, 1), x -> x.would(9, 0), x -> x.would(0, 3));
    }

    // promise 15
    static void promise15Asked() {
        asks("hand", x -> x.hand(2, 0), x -> x.hand(1, 6), x -> x.hand(2, 7), x -> x.hand(2, 8));
        asks("hand", x -> x.hand(12, 5), x -> x.hand(0, 9), x -> x.hand(13, 0), x -> x.hand(-1, 6));
    }

    // promises 16 to 20
    static void promises16To20Asked() {
        asks("quickest", x -> x.quickest(1, 0), x -> x.quickest(2, 1), x -> x.quickest(9, 0), x -> x.quickest(0, 2));
        asks("where", x -> x.where(0), x -> x.where(40), x -> x.where(41));
        asks("apart", x -> x.apart());
        asks("ends", x -> x.ends(1, 0, 0), x -> x.ends(2, 1, 1), x -> x.ends(3, 0, 0), x -> x.ends(1, 2, 0));
        asks("lasts", x -> x.lasts());
    }

    // promises 21 to 25
    static void promises21To25Asked() {
        asks("match", x -> x.match(1, 48), x -> x.match(0, 1), x -> x.match(9, 1), x -> x.match(0, 49));
        asks("asked", x -> x.asked(0), x -> x.asked(1), x -> x.asked(9));
        asks("law", x -> x.law(99), x -> x.law(1), x -> x.law(0), x -> x.law(100));
        asks("freed", x -> x.freed());
        asks("judge", x -> x.judge(0, 0, 2), x -> x.judge(1, 0, 0), x -> x.judge(6, 0, 0), x -> x.judge(0, 0, 13),
                x -> x.judge(0, -1, 1));
    }

    // promises 29, 30, 31, 34
    static void promises29To34Asked() {
        asks("trace", x -> x.trace(0), x -> x.trace(20), x -> x.trace(-1));
        asks("taken", x -> x.taken(0, 2), x -> x.taken(0, 1), x -> x.taken(9, 0), x -> x.taken(0, 7));
        asks("count", x -> x.count(0), x -> x.count(7), x -> x.count(8));
        asks("read", x -> x.read(0, 0), x -> x.read(5, 0), x -> x.read(6, 0), x -> x.read(0, 60));
    }

    // promises 31, 33, 35: what changes nothing because it is no more than was
    static void promisesOfNothingToDo() {
        asks("feed of none", x -> x.feed(77, 0));
        asks("shift of none", x -> x.shift(0, 0, 4, 0, 0), x -> x.shift(0, 0, 0, 0, 4));
    }

    // the test itself: each part of what is seen shows a change
    static void seenChanges() {
        On[] changes = {x -> x.wood(1, 45), x -> x.light(1, true), x -> x.way(1, 2, 6), x -> x.keeper(0, 5, 3, 0xfff7f1),
            x -> x.keeper(0, 5, 4, 0xfff7f3), x -> x.night(0, 0), x -> x.go(0, 0), x -> x.image(), x -> x.undo(),
            x -> x.feed(' ', 1), x -> x.land(), x -> x.item(1, 2, 10), x -> x.tape(5, 4, 0), x -> x.tape(3, 3, 1),
            x -> x.act(0, 0, 7), x -> x.house(1, false), x -> x.item(2, 0, 101), x -> x.tape(3, 2, 0)};
        for (int k = 0; k < changes.length; k++) {
            boolean isSeen = false;
            for (int part = 0; part < 5; part++) {
                FireFromFire x = some();
                changes[k].applyAsLong(x);
                isSeen |= !part(part, x).equals(part(part, some()));
            }
            DUE.is("change " + k + " is seen", isSeen ? 1 : 0, 1);
        }
        DUE.is("NO is no item", some().read(5, 0), NO);
    }
}
