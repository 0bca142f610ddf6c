import java.math.BigInteger;
import java.util.ArrayList;
import java.util.List;
import java.util.TreeSet;

/**
 * The document read once more, as literally as it goes and by other means than the program: real
 * classes for the keepers' kinds, texts that are evaluated as they stand, a fault found by asking
 * of each beginning whether some land begins so, ways by trying all, odds by big fractions.
 */
final class Model {
    static final long NO = Long.MIN_VALUE;

    // ---- keepers

    static class Keeper {
        int kind = 0, v = 0, hours = 0, i = 0;
        Model m = null;

        boolean keepsFire(World w, int h, int weather) { return true; }
        boolean sendsOut(World w, int h, int weather) { return false; }
        int keeps(int x) { m.ran(10); return x + i; }
        int sends(int x) { m.ran(11); return keeps(x) - v; }
        int tells(int x) { m.ran(12); return sends(x) * 2; }
    }

    static class Each extends Keeper {
        @Override boolean sendsOut(World w, int h, int weather) { return true; }
        @Override int sends(int x) { m.ran(20); return super.sends(x) ^ 6; }
    }

    static class One extends Keeper {
        @Override boolean keepsFire(World w, int h, int weather) {
            for (int g = 0; g < h; g++) if (w.lit.get(g)) return false;
            return true;
        }
        @Override boolean sendsOut(World w, int h, int weather) {
            for (int g = 0; g < h; g++) if (w.lit.get(g)) return false;
            return true;
        }
        @Override int keeps(int x) { m.ran(30); return super.keeps(x * 3); }
    }

    static class Free extends Keeper {
        @Override boolean keepsFire(World w, int h, int weather) { return w.sum("need", h, weather) >= v; }
        @Override boolean sendsOut(World w, int h, int weather) { return w.sum("need", h, weather) >= v; }
        @Override int tells(int x) { m.ran(40); return super.tells(x) + sends(1); }
    }

    static class Paid extends Each {
        @Override boolean keepsFire(World w, int h, int weather) { return w.wood.get(h) >= v; }
        @Override int keeps(int x) { m.ran(50); return -super.keeps(x); }
        @Override int sends(int x) { m.ran(51); return super.sends(x + 1); }
    }

    static class Told extends One {
        @Override boolean keepsFire(World w, int h, int weather) {
            String row = String.format("%24s", Integer.toBinaryString(hours)).replace(' ', '0');
            return row.charAt(23 - w.hour % 24) == '1';
        }
        @Override int tells(int x) { m.ran(60); return super.tells(x - i); }
    }

    static class Rare extends Free {
        @Override boolean keepsFire(World w, int h, int weather) {
            int others = 0;
            for (int g = 0; g < w.size(); g++) if (g != h && w.lit.get(g)) others++;
            return others < v;
        }
        @Override int sends(int x) { m.ran(70); return super.sends(x) + super.keeps(2); }
        @Override int keeps(int x) { m.ran(71); return super.keeps(x) ^ v; }
    }

    static Keeper keeperOf(int kind) {
        Keeper k;
        switch (kind) {
            case 1: k = new Each(); break;
            case 2: k = new One(); break;
            case 3: k = new Free(); break;
            case 4: k = new Paid(); break;
            case 5: k = new Told(); break;
            case 6: k = new Rare(); break;
            default: k = new Keeper();
        }
        k.kind = kind;
        return k;
    }

    // ---- how all is

    /** Who is under way: null is nobody. */
    record Walker(boolean brings, int left, int goal, int horn) { }

    static final class World {
        List<Integer> wood = new ArrayList<>();
        List<Boolean> lit = new ArrayList<>();
        List<Keeper> keepers = new ArrayList<>();
        List<Walker> walkers = new ArrayList<>();
        int[][] ways = new int[6][6];
        int weather = 0, hour = 0;
        /** The clauses of the land that holds, each cut at its blanks. */
        List<String[]> land = List.of();
        List<int[]> nights = new ArrayList<>();

        int size() { return wood.size(); }

        World copy() {
            World c = new World();
            c.wood.addAll(wood);
            c.lit.addAll(lit);
            c.keepers.addAll(keepers);
            c.walkers.addAll(walkers);
            for (int a = 0; a < 6; a++) c.ways[a] = ways[a].clone();
            c.weather = weather;
            c.hour = hour;
            c.land = land;
            c.nights.addAll(nights);
            return c;
        }

        int alight() {
            int n = 0;
            for (boolean is : lit) if (is) n++;
            return n;
        }

        int bits() {
            int b = 0;
            for (int h = 0; h < size(); h++) if (lit.get(h)) b += 1 << h;
            return b;
        }

        int sum(String word, int h, int ofWeather) {
            int all = 0;
            for (String[] parts : land) {
                if (parts[0].equals(word) && new Eval(this, h, ofWeather, parts[2]).either()) {
                    all += Integer.parseInt(parts[1]);
                }
            }
            int most = word.equals("out") ? 100 : 99;
            return all > most ? most : all;
        }

        int follows(int a, int b) {
            int[] tenths = new int[3];
            int left = 10;
            for (int c = 0; c < 3; c++) {
                if (c == a) continue;
                int n = 0;
                for (String[] p : land) {
                    if (p[0].equals("next") && p[1].equals("" + a) && p[2].equals("" + c)) {
                        n = Integer.parseInt(p[3]);
                    }
                }
                tenths[c] = n > left ? left : n;
                left -= tenths[c];
            }
            tenths[a] = left;
            return tenths[b];
        }

        int sendsTo(int h) {
            for (int n = 1; n <= 9; n++) {
                for (int g = 0; g < size(); g++) if (lit.get(g) && ways[h][g] == n) return g;
            }
            return -1;
        }

        int would(int h, int ofWeather) {
            if (lit.get(h)) return keepers.get(h).keepsFire(this, h, ofWeather) ? 1 : 2;
            if (walkers.get(h) != null) return 0;
            return keepers.get(h).sendsOut(this, h, ofWeather) && sendsTo(h) >= 0 ? 3 : 0;
        }

        /** How all is an hour later. */
        World later(int ofWeather, int mishaps) {
            World c = copy();
            for (int h = 0; h < size(); h++) {
                int does = would(h, ofWeather);
                int burn = sum("burn", h, ofWeather);
                if (does == 3) {
                    int g = sendsTo(h);
                    c.walkers.set(h, new Walker(false, ways[h][g], g, 0));
                } else if (lit.get(h)) {
                    boolean goesOut = does == 2 || wood.get(h) < burn || (mishaps >> h) % 2 == 1;
                    if (goesOut) c.lit.set(h, false); else c.wood.set(h, wood.get(h) - burn);
                }
            }
            for (int h = 0; h < size(); h++) {
                Walker w = c.walkers.get(h);
                if (w == null) continue;
                int left = w.left() - 1;
                Walker next = new Walker(w.brings(), left, w.goal(), w.brings() ? w.horn() + 1 : 0);
                if (!w.brings() && left == 0) {
                    int back = ways[h][w.goal()] == 0 ? 1 : ways[h][w.goal()];
                    next = c.lit.get(w.goal()) ? new Walker(true, back, w.goal(), 0) : null;
                } else if (w.brings() && next.horn() > sum("horn", h, ofWeather)) {
                    next = null;
                } else if (w.brings() && left == 0) {
                    c.lit.set(h, true);
                    next = null;
                }
                c.walkers.set(h, next);
            }
            c.weather = ofWeather;
            c.hour = hour + 1;
            return c;
        }

        int worthNow(int ofWeather) {
            int all = 0;
            for (int h = 0; h < size(); h++) if (lit.get(h)) all += sum("need", h, ofWeather);
            return all;
        }

        int lacksNow(int ofWeather) {
            int all = 0;
            for (int h = 0; h < size(); h++) if (!lit.get(h) && sum("need", h, ofWeather) > 0) all++;
            return all;
        }

        int worthOf(int n) {
            World w = this;
            int all = 0;
            for (int k = 0; k < n; k++) {
                all += w.worthNow(weather);
                w = w.later(weather, 0);
            }
            return all;
        }

        World lighting(int h) {
            World c = copy();
            c.lit.set(h, true);
            return c;
        }

        /** The fewest hours from a to b by trying all ways that visit no house twice; -5: none. */
        int hours(int a, int b, int been) {
            if (a == b) return 0;
            int best = -5;
            for (int c = 0; c < size(); c++) {
                if (ways[a][c] == 0 || (been >> c & 1) == 1) continue;
                int rest = hours(c, b, been | 1 << c);
                if (rest >= 0 && (best < 0 || ways[a][c] + rest < best)) best = ways[a][c] + rest;
            }
            return best;
        }

        int quickest(int h) {
            int best = -5;
            for (int g = 0; g < size(); g++) {
                if (!lit.get(g)) continue;
                int n = hours(g, h, 1 << g);
                if (n >= 0 && (best < 0 || n < best)) best = n;
            }
            return best;
        }
    }

    /** What an E says of a house, read from its text each time. */
    static final class Eval {
        final World w;
        final int h, weather;
        final String text;
        int at = 0;

        Eval(World w, int h, int weather, String text) {
            this.w = w;
            this.h = h;
            this.weather = weather;
            this.text = text;
        }

        boolean either() {
            boolean is = all();
            while (at < text.length() && text.charAt(at) == '|') {
                at++;
                is |= all();
            }
            return is;
        }

        boolean all() {
            boolean is = one();
            while (at < text.length() && text.charAt(at) == '&') {
                at++;
                is &= one();
            }
            return is;
        }

        boolean one() {
            char c = text.charAt(at++);
            if (c == '!') return !one();
            if (c == '(') {
                boolean is = either();
                at++;
                return is;
            }
            char sign = text.charAt(at++);
            int end = at;
            while (end < text.length() && Character.isDigit(text.charAt(end))) end++;
            int n = Integer.parseInt(text.substring(at, end));
            at = end;
            int value = c == 'w' ? weather : c == 'h' ? w.hour % 24 : c == 'i' ? h
                    : c == 'k' ? w.keepers.get(h).kind : c == 'm' ? w.wood.get(h) : w.alight();
            return sign == '<' ? value < n : sign == '>' ? value > n : value == n;
        }
    }

    // ---- which texts are lands

    /** All places at which a part may end; wantsMore, if some reading came to the end and asked on. */
    static final class Grammar {
        final String text;
        boolean wantsMore = false;

        Grammar(String text) { this.text = text; }

        static boolean isLand(String text) {
            return new Grammar(text).land().contains(text.length());
        }

        static boolean begins(String text) {
            Grammar g = new Grammar(text);
            return g.land().contains(text.length()) || g.wantsMore;
        }

        static int fault(String text) {
            for (int p = 0; p < text.length(); p++) if (!begins(text.substring(0, p + 1))) return p;
            return text.length();
        }

        TreeSet<Integer> oneOf(TreeSet<Integer> from, String signs) {
            TreeSet<Integer> to = new TreeSet<>();
            for (int p : from) {
                if (p == text.length()) wantsMore = true;
                else if (signs.indexOf(text.charAt(p)) >= 0) to.add(p + 1);
            }
            return to;
        }

        TreeSet<Integer> word(TreeSet<Integer> from, String word) {
            TreeSet<Integer> at = from;
            for (char c : word.toCharArray()) at = oneOf(at, "" + c);
            return at;
        }

        TreeSet<Integer> number(TreeSet<Integer> from) {
            TreeSet<Integer> one = oneOf(from, "0123456789");
            TreeSet<Integer> two = oneOf(one, "0123456789");
            two.addAll(one);
            return two;
        }

        TreeSet<Integer> land() {
            TreeSet<Integer> start = new TreeSet<>(List.of(0));
            TreeSet<Integer> ends = new TreeSet<>();
            TreeSet<Integer> at = clause(start);
            for (int n = 1; n <= 10; n++) {
                ends.addAll(at);
                if (n < 10) at = clause(oneOf(at, ";"));
            }
            return ends;
        }

        TreeSet<Integer> clause(TreeSet<Integer> from) {
            TreeSet<Integer> ends = new TreeSet<>();
            if (from.isEmpty()) return ends;
            for (String word : new String[] {"out ", "burn ", "horn ", "need "}) {
                ends.addAll(either(oneOf(number(word(from, word)), " "), 0));
            }
            TreeSet<Integer> a = oneOf(word(from, "next "), "012");
            ends.addAll(number(oneOf(oneOf(oneOf(a, " "), "012"), " ")));
            return ends;
        }

        TreeSet<Integer> either(TreeSet<Integer> from, int depth) {
            return chain(from, depth, true);
        }

        TreeSet<Integer> chain(TreeSet<Integer> from, int depth, boolean isEither) {
            TreeSet<Integer> ends = new TreeSet<>();
            TreeSet<Integer> at = from;
            while (!at.isEmpty()) {
                at = isEither ? chain(at, depth, false) : one(at, depth);
                ends.addAll(at);
                at = oneOf(at, isEither ? "|" : "&");
            }
            return ends;
        }

        TreeSet<Integer> one(TreeSet<Integer> from, int depth) {
            TreeSet<Integer> ends = number(oneOf(oneOf(from, "whikma"), "<=>"));
            if (depth < 4) {
                TreeSet<Integer> not = oneOf(from, "!");
                if (!not.isEmpty()) ends.addAll(one(not, depth + 1));
                TreeSet<Integer> open = oneOf(from, "(");
                if (!open.isEmpty()) ends.addAll(oneOf(either(open, depth + 1), ")"));
            }
            return ends;
        }
    }

    // ---- the calls

    World now = new World();
    World kept = null;
    String text = "";
    int lands = 0;
    List<Integer> trace = new ArrayList<>();
    Object[] tapes = new Object[6];

    void ran(int body) { trace.add(body); }

    boolean isHouse(int h) { return h >= 0 && h < now.size(); }

    int house(int wood, boolean isAlight) {
        if (wood < 0 || wood > 99) return -2;
        if (now.size() == 6) return -4;
        now.wood.add(wood);
        now.lit.add(isAlight);
        now.keepers.add(new Keeper());
        now.walkers.add(null);
        return now.size() - 1;
    }

    int of(int h, int what) {
        if (!isHouse(h)) return -1;
        Walker w = now.walkers.get(h);
        switch (what) {
            case 0: return now.wood.get(h);
            case 1: return now.lit.get(h) ? 1 : 0;
            case 2: return now.keepers.get(h).kind;
            case 3: return now.keepers.get(h).v;
            case 4: return w == null ? 0 : w.brings() ? 2 : 1;
            case 5: return w == null ? 0 : w.left();
            case 6: return w == null ? -5 : w.goal();
            case 7: return w == null || !w.brings() ? -5 : w.horn();
            default: return -1;
        }
    }

    int wood(int h, int n) {
        if (!isHouse(h)) return -1;
        return n < 0 || n > 99 ? -2 : now.wood.set(h, n);
    }

    int light(int h, boolean is) {
        if (!isHouse(h)) return -1;
        return now.lit.set(h, is) ? 1 : 0;
    }

    int way(int a, int b, int n) {
        if (!isHouse(a) || !isHouse(b)) return -1;
        if (a == b || n < 0 || n > 9) return -2;
        int was = now.ways[a][b];
        now.ways[a][b] = n;
        now.ways[b][a] = n;
        return was;
    }

    int feed(int bytes, int n) {
        if (n < 0 || n > 4) return -2;
        if (text.length() + n > 100) return -4;
        byte[] four = BigInteger.valueOf(bytes & 0xffffffffL | 1L << 40).toByteArray();
        for (int k = 0; k < n; k++) text += (char) (four[four.length - n + k] & 255);
        return text.length();
    }

    int land() {
        if (lands == 5) return -4;
        String read = text;
        text = "";
        if (!Grammar.isLand(read)) return -10 - Grammar.fault(read);
        now.land = new ArrayList<>();
        for (String clause : read.split(";")) now.land.add(clause.split(" "));
        return lands++;
    }

    int told(int h, int weather, int what) {
        if (!isHouse(h) || weather < 0 || weather > 2 || what < 0 || what > 3) return -1;
        return now.sum(new String[] {"out", "burn", "horn", "need"}[what], h, weather);
    }

    int follows(int a, int b) {
        return a < 0 || a > 2 || b < 0 || b > 2 ? -1 : now.follows(a, b);
    }

    int keeper(int h, int kind, int v, int hours) {
        if (!isHouse(h) || kind < 0 || kind > 6) return -1;
        if (v < 0 || v > 9 || hours < 0 || hours > 0xffffff) return -2;
        Keeper k = keeperOf(kind);
        k.v = v;
        k.hours = hours;
        return now.keepers.set(h, k).kind;
    }

    int would(int h, int weather) {
        return !isHouse(h) || weather < 0 || weather > 2 ? -1 : now.would(h, weather);
    }

    int go(int weather, int mishaps) {
        if (weather < 0 || weather > 2) return -1;
        if (mishaps < 0 || mishaps > Math.pow(2, now.size()) - 1) return -2;
        if (now.hour == 9999) return -3;
        now = now.later(weather, mishaps);
        return now.bits();
    }

    int night(int weather, int mishaps) {
        if (weather == -1) {
            now.nights = new ArrayList<>();
            return 0;
        }
        if (weather < 0 || weather > 2) return -1;
        if (mishaps < 0 || mishaps > 63) return -2;
        if (now.nights.size() == 12) return -4;
        now.nights.add(new int[] {weather, mishaps});
        return now.nights.size();
    }

    World behind(int n) {
        World w = now;
        for (int[] night : now.nights.subList(0, n)) w = w.later(night[0], night[1]);
        return w;
    }

    int hand(int n, int what) {
        if (what < 0 || what > 8 || what <= 5 && !isHouse(what)) return -1001;
        if (n < 0 || n > now.nights.size()) return -1002;
        if (what <= 5) return behind(n).wood.get(what);
        if (what == 6) return behind(n).bits();
        int all = 0;
        for (int k = 0; k < n; k++) {
            int weather = now.nights.get(k)[0];
            all += what == 7 ? behind(k).lacksNow(weather) : behind(k).worthNow(weather);
        }
        return all;
    }

    int quickest(int h, int what) {
        if (!isHouse(h) || what < 0 || what > 1) return -1;
        int n = now.quickest(h);
        return what == 0 ? n : n >= 0 && n <= now.sum("horn", h, now.weather) ? 1 : 0;
    }

    int where(int r) {
        if (r < 0 || r > 40) return -2;
        for (int few = 0; few <= now.size(); few++) {
            for (int set = 0; set < 64; set++) {
                if (Integer.bitCount(set) != few || set >> now.size() != 0) continue;
                World w = now.copy();
                for (int h = 0; h < w.size(); h++) w.lit.set(h, (set >> h & 1) == 1);
                boolean all = true;
                for (int h = 0; h < w.size(); h++) all &= w.quickest(h) >= 0 && w.quickest(h) <= r;
                if (all) return set;
            }
        }
        return -5;
    }

    int apart() {
        int most = 0;
        for (int a = 0; a < now.size(); a++) {
            for (int b = 0; b < now.size(); b++) {
                int n = now.hours(a, b, 1 << a);
                if (n < 0) return -5;
                most = Math.max(most, n);
            }
        }
        return most;
    }

    private BigInteger above;

    long ends(int n, int what, int part) {
        if (n < 1 || n > 2 || what < 0 || what > 1 || part < 0 || part > 1 || now.size() > 3) return NO;
        above = BigInteger.ZERO;
        spread(now, n, BigInteger.ONE, 0, what);
        BigInteger below = BigInteger.TEN.multiply(BigInteger.valueOf(100).pow(now.size())).pow(n);
        BigInteger common = above.gcd(below);
        return (part == 0 ? above : below).divide(common).longValueExact();
    }

    private void spread(World w, int left, BigInteger share, int worth, int what) {
        if (left == 0) {
            long value = what == 1 ? worth : w.alight() == 0 ? 1 : 0;
            above = above.add(share.multiply(BigInteger.valueOf(value)));
            return;
        }
        for (int weather = 0; weather < 3; weather++) {
            for (int set = 0; set < 1 << w.size(); set++) {
                BigInteger s = share.multiply(BigInteger.valueOf(w.follows(w.weather, weather)));
                for (int h = 0; h < w.size(); h++) {
                    int out = w.lit.get(h) ? w.sum("out", h, weather) : 0;
                    s = s.multiply(BigInteger.valueOf((set >> h & 1) == 1 ? out : 100 - out));
                }
                if (s.signum() != 0) {
                    spread(w.later(weather, set), left - 1, s, worth + w.worthNow(weather), what);
                }
            }
        }
    }

    int lasts() {
        World w = now;
        for (int n = 0; n <= 200; n++) {
            if (w.alight() == 0) return n;
            w = w.later(now.weather, 0);
        }
        return -5;
    }

    int match(int h, int n) {
        if (!isHouse(h)) return -100001;
        if (n < 1 || n > 48) return -100002;
        return now.lighting(h).worthOf(n) - now.worthOf(n);
    }

    int asked(int h) {
        if (!isHouse(h)) return -1;
        if (!now.lit.get(h)) return -3;
        List<Integer> matches = new ArrayList<>();
        for (int g = 0; g < now.size(); g++) {
            if (!now.lit.get(g) && now.sendsTo(g) == h) matches.add(match(g, 24));
        }
        for (int p = 99; p >= 0; p--) {
            for (int match : matches) if (match >= p) return p;
        }
        return 0;
    }

    int law(int n) {
        if (n < 1 || n > 99) return -2;
        for (int v = 0; v <= 9; v++) {
            World w = now.copy();
            for (int h = 0; h < w.size(); h++) {
                Keeper k = keeperOf(4);
                k.v = v;
                w.keepers.set(h, k);
            }
            for (int k = 0; k < n; k++) w = w.later(now.weather, 0);
            if (w.alight() > 0) return v;
        }
        return -5;
    }

    int freed() {
        int b = 0;
        for (int h = 0; h < now.size(); h++) {
            if (now.lit.get(h) && !now.keepers.get(h).keepsFire(now, h, now.weather)) b += 1 << h;
        }
        return b;
    }

    int judge(int tape, int i, int n) {
        if (tape < 0 || tape > 5) return -1;
        if (n < 0 || n > now.nights.size()) return -2;
        if (tapes[tape] != null && !(tapes[tape] instanceof boolean[])) return -12;
        World w = behind(n);
        if (w.size() == 0) return -5;
        if (tapes[tape] == null || i < 0) return 100;
        boolean[] row = (boolean[]) tapes[tape];
        for (int h = 0; h < w.size(); h++) {
            if ((long) i + h >= row.length) return 100 + h;
            if (row[i + h] != w.lit.get(h)) return h;
        }
        return -5;
    }

    int image() {
        kept = now.copy();
        return now.hour;
    }

    int undo() {
        if (kept == null) return -3;
        now = kept.copy();
        return now.hour;
    }

    int act(int h, int act, int x) {
        trace = new ArrayList<>();
        if (!isHouse(h) || act < 0 || act > 2) return 0;
        Keeper k = now.keepers.get(h);
        k.m = this;
        k.i = h;
        return act == 0 ? k.keeps(x) : act == 1 ? k.sends(x) : k.tells(x);
    }

    int trace(int i) {
        return i < 0 || i >= Math.min(20, trace.size()) ? -1 : trace.get(i);
    }

    int taken(int h, int k) {
        if (k < 0 || k > 6) return -2;
        if (!isHouse(h)) return -11;
        Keeper is = now.keepers.get(h);
        return keeperOf(k).getClass().isInstance(is) ? is.kind : -12;
    }

    int count(int what) {
        switch (what) {
            case 0: return now.size();
            case 1: return lands;
            case 2: return now.nights.size();
            case 3: return text.length();
            case 4: return now.hour;
            case 5: return now.weather;
            case 6: return now.alight();
            case 7: return trace.size();
            default: return -2;
        }
    }

    int tape(int tape, int sort, int n) {
        if (tape < 0 || tape > 5) return -1;
        if (sort == -1) {
            tapes[tape] = null;
            return 1;
        }
        if (sort < 0 || sort > 4 || n > 60) return -2;
        if (n < 0) return -14;
        tapes[tape] = sort == 0 ? new byte[n] : sort == 1 ? new short[n] : sort == 2 ? new int[n]
                : sort == 3 ? new long[n] : new boolean[n];
        return 1;
    }

    int item(int tape, int i, long v) {
        if (tape < 0 || tape > 5) return -1;
        Object t = tapes[tape];
        if (t == null) return -11;
        if (i < 0 || i >= java.lang.reflect.Array.getLength(t)) return -13;
        if (t instanceof byte[] b) b[i] = (byte) v;
        else if (t instanceof short[] s) s[i] = (short) v;
        else if (t instanceof int[] n) n[i] = (int) v;
        else if (t instanceof long[] l) l[i] = v;
        else if (t instanceof boolean[] z) z[i] = v != 0;
        return 1;
    }

    long read(int tape, int i) {
        if (tape < 0 || tape > 5 || tapes[tape] == null) return NO;
        Object t = tapes[tape];
        if (i < 0 || i >= java.lang.reflect.Array.getLength(t)) return NO;
        if (t instanceof boolean[] z) return z[i] ? 1 : 0;
        return java.lang.reflect.Array.getLong(t, i);
    }

    int shift(int tape, int i, int other, int j, int n) {
        if (tape < 0 || tape > 5 || other < 0 || other > 5) return -1;
        if (tapes[tape] == null || tapes[other] == null) return -11;
        if (tapes[tape].getClass() != tapes[other].getClass()) return -12;
        try {
            System.arraycopy(tapes[tape], i, tapes[other], j, n);
        } catch (IndexOutOfBoundsException e) {
            return -13;
        }
        return n;
    }
}
