import java.util.Random;

/**
 * Random runs of up to 512 calls on a FireFromFire and on a Model, each answer compared. The
 * numbers are drawn from a fixed seed, so a run that fails fails again.
 */
public final class ModelTest {
    /** java -Druns=100000 .. tries more of them. */
    private static final int RUNS = Integer.getInteger("runs", 3000);
    /** An object's calls, less those that the longest step may make. */
    private static final int CALLS = 512 - 70;
    private static final String[] WORDS = {"out", "burn", "horn", "need"};
    private final Random random;
    private final FireFromFire x = new FireFromFire();
    private final Model m = new Model();
    private final int tame;
    private int used = 0;
    private String call = "";
    private long got = 0;
    private long want = 0;

    private ModelTest(long seed) {
        random = new Random(seed);
        tame = random.nextInt(3);
    }

    public static void main(String[] args) {
        int wrong = 0;
        long[] seen = new long[34];
        for (int run = 0; run < RUNS && wrong < 10; run++) {
            ModelTest t = new ModelTest(run);
            StringBuilder calls = new StringBuilder();
            if (t.tame > 0) t.prepare(calls);
            int n = 40 + t.random.nextInt(400);
            for (int k = 0; k < n && t.used < CALLS; k++) {
                int which = t.random.nextInt(34);
                // a village that is prepared shall seldom grow: odds are of three houses at most
                if (which == 0 && t.tame > 0 && t.random.nextInt(8) > 0) which = 21;
                t.step(which);
                seen[which]++;
                calls.append(t.call).append(" = ").append(t.got).append('\n');
                if (t.got != t.want) {
                    wrong++;
                    System.out.println("run " + run + ": " + t.call + " answered " + t.got
                            + ", the model " + t.want + "\nall calls:\n" + calls);
                    break;
                }
            }
        }
        System.out.println("ModelTest: " + RUNS + " runs, " + wrong + " wrong");
        if (wrong != 0) System.exit(1);
    }

    /** A village in which something happens, so that what is asked isn't only of empty houses. */
    private void prepare(StringBuilder calls) {
        int houses = 1 + random.nextInt(random.nextInt(3) > 0 ? 3 : 6);
        for (int h = 0; h < houses; h++) {
            note(calls, "house", both(random.nextInt(60), random.nextInt(3) > 0));
        }
        for (int a = 0; a < houses; a++) {
            for (int b = 0; b < a; b++) {
                if (random.nextInt(4) > 0) {
                    int n = 1 + random.nextInt(tame == 1 ? 3 : 9);
                    x.way(a, b, n);
                    m.way(a, b, n);
                    used++;
                    calls.append("way(" + a + ", " + b + ", " + n + ")\n");
                }
            }
        }
        for (int h = 0; h < houses; h++) {
            int kind = random.nextInt(4) == 0 ? 4 : random.nextInt(7), v = random.nextInt(tame == 1 ? 4 : 10);
            int row = random.nextInt(1 << 24);
            x.keeper(h, kind, v, row);
            m.keeper(h, kind, v, row);
            used++;
            calls.append("keeper(" + h + ", " + kind + ", " + v + ", " + row + ")\n");
        }
        feed(someLand());
        set("land() of " + m.text, x.land(), m.land());
    }

    private static void note(StringBuilder calls, String name, String args) {
        calls.append(name).append('(').append(args).append(")\n");
    }

    private String both(int wood, boolean is) {
        x.house(wood, is);
        m.house(wood, is);
        used++;
        return wood + ", " + is;
    }

    private int pick(int... some) {
        return some[random.nextInt(some.length)];
    }

    /** Mostly from 0 up to most, now and then beside it or far away. */
    private int num(int most) {
        int r = random.nextInt(20);
        if (r == 0) return pick(-1, most + 1, -2, most + 2);
        if (r == 1 && tame == 0) return pick(Integer.MIN_VALUE, Integer.MAX_VALUE, -most, 1 << 24);
        if (r == 2) return most;
        if (r == 3) return 0;
        return random.nextInt(most + 1);
    }

    private int house() {
        return random.nextInt(15) == 0 ? num(6) : random.nextInt(Math.max(1, m.now.size()));
    }

    private String test() {
        return "" + "whikma".charAt(random.nextInt(6)) + "<=>".charAt(random.nextInt(3))
                + random.nextInt(random.nextBoolean() ? 4 : 40);
    }

    private String either(int depth) {
        int r = random.nextInt(9);
        if (depth < 5 && r == 0) return "!" + (random.nextBoolean() ? test() : "(" + either(depth + 2) + ")");
        if (depth < 5 && r == 1) return "(" + either(depth + 1) + ")";
        if (r == 2) return either(depth + 1) + "&" + either(depth + 1);
        if (r == 3) return either(depth + 1) + "|" + either(depth + 1);
        return test();
    }

    private String clause() {
        int r = random.nextInt(6);
        if (r > 3) {
            return "next " + random.nextInt(3) + " " + random.nextInt(3) + " " + random.nextInt(12);
        }
        int n = r == 0 ? random.nextInt(100) : random.nextInt(random.nextInt(4) == 0 ? 30 : 6);
        // a land in which all burns much is soon a land without fire
        if (r == 1 && tame > 0 && random.nextInt(3) > 0) {
            return random.nextBoolean() ? "burn 1 " + test() : "burn 30 a>" + random.nextInt(3) + "&h>" + n;
        }
        if (r == 2 && tame > 0) n += 3;
        return WORDS[r] + " " + n + " " + either(0);
    }

    private String someLand() {
        String text = clause();
        int most = random.nextInt(14);
        for (int k = 0; k < most; k++) {
            String next = text + ";" + (most > 10 ? "out 1 w<" + random.nextInt(3) : clause());
            if (next.length() <= 100) text = next;
        }
        return text.length() <= 100 ? text : text.substring(0, 100);
    }

    private String spoilt(String text) {
        int p = random.nextInt(text.length() + 1);
        char c = "outbrnhedx 0129;|&()!<=>whikma".charAt(random.nextInt(30));
        switch (random.nextInt(4)) {
            case 0: return text.substring(0, p);
            case 1: return text.substring(0, p) + c + text.substring(p);
            case 2: return p == text.length() ? text : text.substring(0, p) + c + text.substring(p + 1);
            default: return text;
        }
    }

    private void feed(String text) {
        for (int p = 0; p < text.length(); p += 4) {
            int bytes = 0, n = Math.min(4, text.length() - p);
            for (int k = p; k < p + n; k++) bytes = bytes << 8 | text.charAt(k);
            x.feed(bytes, n);
            m.feed(bytes, n);
            used++;
        }
    }

    private void set(String aCall, long aGot, long aWant) {
        used++;
        call = aCall;
        got = aGot;
        want = aWant;
    }

    private void step(int which) {
        int h = house(), g = house();
        switch (which) {
            case 0: case 1: case 2: case 3: case 4: case 5: case 6: case 7: case 8:
                stepHouses(which, h, g);
                break;
            case 9: case 10: case 11: case 12: case 13: case 14: case 15: case 16: case 17:
                stepHours(which, h);
                break;
            case 18: case 19: case 20: case 21: case 22: case 23: case 24: case 25: case 26:
                stepAsked(which, h);
                break;
            default:
                stepTapes(which, h);
        }
    }

    private void stepHouses(int which, int h, int g) {
        boolean is = random.nextInt(3) > 0;
        int n = num(99), w = num(9), what = num(7), f = num(4);
        switch (which) {
            case 0: set("house(" + n + ", " + is + ")", x.house(n, is), m.house(n, is)); break;
            case 1: set("of(" + h + ", " + what + ")", x.of(h, what), m.of(h, what)); break;
            case 2: set("wood(" + h + ", " + n + ")", x.wood(h, n), m.wood(h, n)); break;
            case 3: set("light(" + h + ", " + is + ")", x.light(h, is), m.light(h, is)); break;
            case 4: set("way(" + h + ", " + g + ", " + w + ")", x.way(h, g, w), m.way(h, g, w)); break;
            case 5:
                if (random.nextInt(10) == 0) {
                    int bytes = random.nextInt();
                    set("feed(" + bytes + ", " + f + ")", x.feed(bytes, f), m.feed(bytes, f));
                } else {
                    set("feed(0, 0)", x.feed(0, 0), m.feed(0, 0));
                }
                break;
            case 6:
                String text = random.nextInt(3) == 0 ? someLand() : spoilt(someLand());
                feed(text);
                set("land() of " + m.text, x.land(), m.land());
                break;
            case 7:
                w = num(2);
                f = num(3);
                set("told(" + h + ", " + w + ", " + f + ")", x.told(h, w, f), m.told(h, w, f));
                break;
            default:
                w = num(2);
                f = num(2);
                set("follows(" + w + ", " + f + ")", x.follows(w, f), m.follows(w, f));
        }
    }

    private void stepHours(int which, int h) {
        int w = num(2), kind = num(6), v = num(9), row = num((1 << 24) - 1), n = num(m.now.nights.size());
        int what = num(8), mishaps = random.nextInt(3) == 0 ? num((1 << m.now.size()) - 1) : 0;
        switch (which) {
            case 9: set("keeper(" + h + ", " + kind + ", " + v + ", " + row + ")",
                    x.keeper(h, kind, v, row), m.keeper(h, kind, v, row)); break;
            case 10: set("would(" + h + ", " + w + ")", x.would(h, w), m.would(h, w)); break;
            case 11: case 12: case 13:
                set("go(" + w + ", " + mishaps + ")", x.go(w, mishaps), m.go(w, mishaps)); break;
            case 14: case 15:
                mishaps = num(63);
                if (w == -1 && random.nextInt(4) > 0) w = 0;
                set("night(" + w + ", " + mishaps + ")", x.night(w, mishaps), m.night(w, mishaps)); break;
            default: set("hand(" + n + ", " + what + ")", x.hand(n, what), m.hand(n, what));
        }
    }

    private void stepAsked(int which, int h) {
        int r = num(40), n = num(2), what = num(1), part = num(1), hours = num(48), law = num(99);
        switch (which) {
            case 18: set("quickest(" + h + ", " + what + ")", x.quickest(h, what), m.quickest(h, what)); break;
            case 19:
                r = random.nextBoolean() ? num(9) : r;
                set("where(" + r + ")", x.where(r), m.where(r)); break;
            case 20: set("apart()", x.apart(), m.apart()); break;
            case 21: set("ends(" + n + ", " + what + ", " + part + ")", x.ends(n, what, part),
                    m.ends(n, what, part)); break;
            case 22: set("lasts()", x.lasts(), m.lasts()); break;
            case 23: set("match(" + h + ", " + hours + ")", x.match(h, hours), m.match(h, hours)); break;
            case 24: set("asked(" + h + ")", x.asked(h), m.asked(h)); break;
            case 25: set("law(" + law + ")", x.law(law), m.law(law)); break;
            default: set("freed()", x.freed(), m.freed());
        }
    }

    private void stepTapes(int which, int h) {
        int t = num(5) % 7, o = num(5), i = num(8), j = num(8), n = num(m.now.nights.size()), k = num(6), s = num(4);
        if (random.nextBoolean()) o = t;
        switch (which) {
            case 27:
                if (random.nextInt(2) == 0) {
                    set("image()", x.image(), m.image());
                } else {
                    set("undo()", x.undo(), m.undo());
                }
                break;
            case 28:
                int act = num(2), v = random.nextBoolean() ? random.nextInt() : num(20);
                set("act(" + h + ", " + act + ", " + v + ")", x.act(h, act, v), m.act(h, act, v));
                for (int p = -1; p < 21 && got == want; p++) {
                    set("trace(" + p + ") behind " + call, x.trace(p), m.trace(p));
                }
                break;
            case 29: set("taken(" + h + ", " + k + ")", x.taken(h, k), m.taken(h, k)); break;
            case 30: set("count(" + i + ")", x.count(i), m.count(i)); break;
            case 31:
                int size = random.nextBoolean() ? num(12) : num(60);
                s = random.nextBoolean() ? 4 : s;
                set("tape(" + t + ", " + s + ", " + size + ")", x.tape(t, s, size), m.tape(t, s, size));
                for (int p = 0; p < Math.min(size, 61) && got == want; p++) {
                    long bits = random.nextInt(3) == 0 ? random.nextLong() : random.nextInt(2);
                    set("item(" + t + ", " + p + ", " + bits + ")", x.item(t, p, bits), m.item(t, p, bits));
                }
                break;
            case 32:
                set("shift(" + t + ", " + i + ", " + o + ", " + j + ", " + k + ")",
                        x.shift(t, i, o, j, k), m.shift(t, i, o, j, k));
                for (int p = -1; p < 61 && got == want; p++) {
                    set("read(" + o + ", " + p + ") behind " + call, x.read(o, p), m.read(o, p));
                }
                break;
            default:
                i = random.nextInt(3) > 0 ? num(2) : i;
                set("judge(" + t + ", " + i + ", " + n + ")", x.judge(t, i, n), m.judge(t, i, n));
        }
    }
}
