/**
 * Fire only from fire: houses that keep a fire, let it out or send for it, in a land that is a
 * text. Every call answers by a number; the document's promises say which.
 */
public final class FireFromFire {
    public static final int NONE = -1, BAD = -2, STATE = -3, FULL = -4;
    public static final long NO = Long.MIN_VALUE;

    private static final int NOTHING = -11, CAST = -12, PLACE = -13, SIZE = -14;
    private static final int NO_WAY = -5;
    private static final int HAND_NONE = -1001, HAND_BAD = -1002;
    private static final int MATCH_NONE = -100001, MATCH_BAD = -100002;

    private static final int HOUSES = 6, LANDS = 5, CLAUSES = 10, BYTES = 100, NESTED = 4;
    private static final int NIGHTS = 12, TAPES = 6, ITEMS = 60, TRACED = 20;
    private static final int WEATHERS = 3, DAY = 24, LAST_HOUR = 9999, MOST_WOOD = 99;
    private static final int MOST_V = 9, MOST_WAY = 9, MOST_ROW = (1 << DAY) - 1;
    private static final int MOST_RANGE = 40, MOST_MATCH = 48, MOST_LAW = 99, MOST_LASTS = 200;
    private static final int MOST_PRICE = 99, ODDS_HOUSES = 3, ODDS_HOURS = 2;

    private static final int OUT = 0, BURN = 1, HORN = 2, NEED = 3, NEXT = 4;
    private static final int KEEPER = 0, EACH = 1, ONE = 2, FREE = 3, PAID = 4, TOLD = 5, RARE = 6;
    private static final int KINDS = 7;
    private static final int NOBODY = 0, GOES = 1, BRINGS = 2;
    private static final int IDLE = 0, KEEPS = 1, LETS_OUT = 2, SENDS = 3;
    private static final int BOOLEANS = 4;
    /** The letters of tests; a test's step is its letter's place here. */
    private static final String LETTERS = "whikma";
    private static final int FACTS = 6, NOT = 6, AND = 7, OR = 8;

    private final Village now = new Village();
    private final Village kept = new Village();
    private final Village then = new Village();
    private boolean isKept = false;
    private final Reader text = new Reader();
    private final Land[] lands = new Land[LANDS];
    private int landCount = 0;
    private final Hours hours = new Hours();
    private final Paths paths = new Paths();
    private final Odds odds = new Odds();
    private final Acts acts = new Acts();
    private final Tape[] tapes = new Tape[TAPES];

    public FireFromFire() {
        for (int i = 0; i < LANDS; i++) {
            lands[i] = new Land();
        }
        for (int i = 0; i < TAPES; i++) {
            tapes[i] = new Tape();
        }
    }

    // ---- houses, ways, lands

    public int house(int wood, boolean isAlight) {
        if (wood < 0 || wood > MOST_WOOD) {
            return BAD;
        }
        if (now.houses < 0 || now.houses >= HOUSES) {
            return FULL;
        }
        now.homes[now.houses].start(wood, isAlight);
        return now.houses++;
    }

    public int of(int house, int what) {
        House home = now.find(house);
        if (home == null) {
            return NONE;
        }
        switch (what) {
            case 0:
                return home.wood;
            case 1:
                return home.isAlight ? 1 : 0;
            case 2:
                return home.kind;
            case 3:
                return home.v;
            case 4:
                return home.walk;
            case 5:
                return home.walk == NOBODY ? 0 : home.left;
            case 6:
                return home.walk == NOBODY ? NO_WAY : home.goal;
            case 7:
                return home.walk == BRINGS ? home.horn : NO_WAY;
            default:
                return NONE;
        }
    }

    public int wood(int house, int n) {
        House home = now.find(house);
        if (home == null) {
            return NONE;
        }
        if (n < 0 || n > MOST_WOOD) {
            return BAD;
        }
        int was = home.wood;
        home.wood = n;
        return was;
    }

    public int light(int house, boolean is) {
        House home = now.find(house);
        if (home == null) {
            return NONE;
        }
        int was = home.isAlight ? 1 : 0;
        home.isAlight = is;
        return was;
    }

    public int way(int a, int b, int n) {
        if (now.find(a) == null || now.find(b) == null) {
            return NONE;
        }
        if (a == b || n < 0 || n > MOST_WAY) {
            return BAD;
        }
        int was = now.hoursBetween(a, b);
        now.join(a, b, n);
        return was;
    }

    public int feed(int bytes, int n) {
        if (n < 0 || n > 4) {
            return BAD;
        }
        if (n > BYTES - text.length) {
            return FULL;
        }
        for (int k = n - 1; k >= 0; k--) {
            text.append(bytes >>> (8 * k) & 255);
        }
        return text.length;
    }

    public int land() {
        if (landCount < 0 || landCount >= LANDS) {
            return FULL;
        }
        Land land = lands[landCount];
        boolean isLand = text.parse(land);
        text.length = 0;
        if (!isLand) {
            return -10 - text.place;
        }
        now.land = land;
        return landCount++;
    }

    public int told(int house, int weather, int what) {
        if (now.find(house) == null || !isWeather(weather) || what < OUT || what > NEED) {
            return NONE;
        }
        return now.sum(what, house, weather);
    }

    public int follows(int a, int b) {
        if (!isWeather(a) || !isWeather(b)) {
            return NONE;
        }
        return now.tenthsOf(a, b);
    }

    // ---- keepers, hours

    public int keeper(int house, int kind, int v, int hours) {
        House home = now.find(house);
        if (home == null || !isKind(kind)) {
            return NONE;
        }
        if (v < 0 || v > MOST_V || hours < 0 || hours > MOST_ROW) {
            return BAD;
        }
        int was = home.kind;
        home.kind = kind;
        home.v = v;
        home.row = hours;
        return was;
    }

    public int would(int house, int weather) {
        if (now.find(house) == null || !isWeather(weather)) {
            return NONE;
        }
        return now.choice(house, weather);
    }

    public int go(int weather, int mishaps) {
        if (!isWeather(weather)) {
            return NONE;
        }
        if (mishaps < 0 || mishaps >= 1 << now.houses) {
            return BAD;
        }
        if (now.hour >= LAST_HOUR) {
            return STATE;
        }
        hours.pass(now, weather, mishaps);
        return now.litBits();
    }

    public int night(int weather, int mishaps) {
        if (weather == -1) {
            now.nights = 0;
            return 0;
        }
        if (!isWeather(weather)) {
            return NONE;
        }
        if (mishaps < 0 || mishaps >= 1 << HOUSES) {
            return BAD;
        }
        if (now.nights < 0 || now.nights >= NIGHTS) {
            return FULL;
        }
        now.nightWeather[now.nights] = weather;
        now.nightMishaps[now.nights] = mishaps;
        return ++now.nights;
    }

    public int hand(int n, int what) {
        if (what < 0 || what > 8 || (what < HOUSES && now.find(what) == null)) {
            return HAND_NONE;
        }
        if (n < 0 || n > now.nights) {
            return HAND_BAD;
        }
        hours.passNights(now, then, n);
        if (what == 6) {
            return then.litBits();
        }
        if (what == 7) {
            return hours.lacks;
        }
        if (what == 8) {
            return hours.worth;
        }
        House home = then.find(what);
        return home == null ? HAND_NONE : home.wood;
    }

    // ---- what is asked

    public int quickest(int house, int what) {
        if (now.find(house) == null || what < 0 || what > 1) {
            return NONE;
        }
        paths.measure(now);
        int least = paths.toFire(now, house);
        if (what == 0) {
            return least;
        }
        return least >= 0 && now.sum(HORN, house, now.weather) >= least ? 1 : 0;
    }

    public int where(int r) {
        if (r < 0 || r > MOST_RANGE) {
            return BAD;
        }
        paths.measure(now);
        return paths.fewest(r);
    }

    public int apart() {
        paths.measure(now);
        return paths.widest();
    }

    public long ends(int n, int what, int part) {
        if (n < 1 || n > ODDS_HOURS || what < 0 || what > 1 || part < 0 || part > 1
                || now.houses > ODDS_HOUSES) {
            return NO;
        }
        int courses = odds.begin(now.houses, n);
        for (int course = 0; course < courses; course++) {
            odds.follow(hours, now, n, course);
        }
        long above = what == 0 ? odds.ended : odds.worth;
        long common = Odds.commonDivisor(above, odds.below);
        if (common < 1) {
            return NO;
        }
        return (part == 0 ? above : odds.below) / common;
    }

    public int lasts() {
        then.copy(now);
        for (int gone = 0; gone <= MOST_LASTS; gone++) {
            if (then.litCount() == 0) {
                return gone;
            }
            hours.pass(then, now.weather, 0);
        }
        return NO_WAY;
    }

    public int match(int house, int n) {
        if (now.find(house) == null) {
            return MATCH_NONE;
        }
        if (n < 1 || n > MOST_MATCH) {
            return MATCH_BAD;
        }
        return hours.gain(now, then, house, n);
    }

    public int asked(int house) {
        House home = now.find(house);
        if (home == null) {
            return NONE;
        }
        if (!home.isAlight) {
            return STATE;
        }
        int most = 0;
        for (int h = 0; h < now.houses; h++) {
            House other = now.find(h);
            if (other != null && !other.isAlight && now.nearestFire(h) == house) {
                most = Math.max(most, hours.gain(now, then, h, DAY));
            }
        }
        return Math.min(most, MOST_PRICE);
    }

    public int law(int n) {
        if (n < 1 || n > MOST_LAW) {
            return BAD;
        }
        for (int v = 0; v <= MOST_V; v++) {
            then.copy(now);
            then.payAll(v);
            for (int gone = 0; gone < n; gone++) {
                hours.pass(then, now.weather, 0);
            }
            if (then.litCount() > 0) {
                return v;
            }
        }
        return NO_WAY;
    }

    public int freed() {
        int bits = 0;
        for (int h = 0; h < now.houses; h++) {
            if (now.choice(h, now.weather) == LETS_OUT) {
                bits |= 1 << h;
            }
        }
        return bits;
    }

    // ---- judging, the image, acts, tapes

    public int judge(int tape, int i, int n) {
        Tape row = findTape(tape);
        if (row == null) {
            return NONE;
        }
        if (n < 0 || n > now.nights) {
            return BAD;
        }
        if (row.isRow() && row.sort != BOOLEANS) {
            return CAST;
        }
        hours.passNights(now, then, n);
        for (int h = 0; h < then.houses; h++) {
            // size - h cannot wrap, i + h could
            if (!row.isRow() || i < 0 || i >= row.size - h) {
                return 100 + h;
            }
            House home = then.find(h);
            if (home != null && home.isAlight != (row.get(i + h) != 0)) {
                return h;
            }
        }
        return NO_WAY;
    }

    public int image() {
        kept.copy(now);
        isKept = true;
        return now.hour;
    }

    public int undo() {
        if (!isKept) {
            return STATE;
        }
        now.copy(kept);
        return now.hour;
    }

    public int act(int house, int act, int x) {
        acts.begin(now.find(house), house);
        if (now.find(house) == null) {
            return 0;
        }
        switch (act) {
            case 0:
                return acts.keepsBody(x);
            case 1:
                return acts.sendsBody(x);
            case 2:
                return acts.tellsBody(x);
            default:
                return 0;
        }
    }

    public int trace(int i) {
        if (i < 0 || i >= acts.ran || i >= TRACED) {
            return NONE;
        }
        return acts.numbers[i];
    }

    public int taken(int house, int k) {
        if (!isKind(k)) {
            return BAD;
        }
        House home = now.find(house);
        if (home == null) {
            return NOTHING;
        }
        int kind = home.kind;
        boolean isUnder = k == KEEPER || kind == k || kindAbove(kind) == k;
        return isUnder ? kind : CAST;
    }

    public int count(int what) {
        switch (what) {
            case 0:
                return now.houses;
            case 1:
                return landCount;
            case 2:
                return now.nights;
            case 3:
                return text.length;
            case 4:
                return now.hour;
            case 5:
                return now.weather;
            case 6:
                return now.litCount();
            case 7:
                return acts.ran;
            default:
                return BAD;
        }
    }

    public int tape(int tape, int sort, int n) {
        Tape row = findTape(tape);
        if (row == null) {
            return NONE;
        }
        if (sort == -1) {
            row.start(-1, 0);
            return 1;
        }
        if (sort < 0 || sort > BOOLEANS || n > ITEMS) {
            return BAD;
        }
        if (n < 0) {
            return SIZE;
        }
        row.start(sort, n);
        return 1;
    }

    public int item(int tape, int i, long v) {
        Tape row = findTape(tape);
        if (row == null) {
            return NONE;
        }
        if (!row.isRow()) {
            return NOTHING;
        }
        if (i < 0 || i >= row.size) {
            return PLACE;
        }
        row.put(i, v);
        return 1;
    }

    public long read(int tape, int i) {
        Tape row = findTape(tape);
        if (row == null || !row.isRow() || i < 0 || i >= row.size) {
            return NO;
        }
        return row.get(i);
    }

    public int shift(int tape, int i, int other, int j, int n) {
        Tape from = findTape(tape);
        Tape to = findTape(other);
        if (from == null || to == null) {
            return NONE;
        }
        if (!from.isRow() || !to.isRow()) {
            return NOTHING;
        }
        if (from.sort != to.sort) {
            return CAST;
        }
        if (!from.has(i, n) || !to.has(j, n)) {
            return PLACE;
        }
        System.arraycopy(from.items, i, to.items, j, n);
        return n;
    }

    // ---- what the numbers of calls are

    private Tape findTape(int tape) {
        return tape >= 0 && tape < TAPES ? tapes[tape] : null;
    }

    private static boolean isWeather(int weather) {
        return weather >= 0 && weather < WEATHERS;
    }

    private static boolean isKind(int kind) {
        return kind >= 0 && kind < KINDS;
    }

    private static int kindAbove(int kind) {
        switch (kind) {
            case PAID:
                return EACH;
            case TOLD:
                return ONE;
            case RARE:
                return FREE;
            default:
                return KEEPER;
        }
    }

    /** A house with its fire, its wood, its keeper and who of it is under way. */
    private static final class House {
        int wood = 0;
        boolean isAlight = false;
        int kind = KEEPER;
        int v = 0;
        int row = 0;
        int walk = NOBODY;
        int left = 0;
        int goal = 0;
        int horn = 0;

        void start(int someWood, boolean isLit) {
            wood = someWood;
            isAlight = isLit;
            kind = KEEPER;
            v = 0;
            row = 0;
            setOut(NOBODY, 0, 0);
        }

        void setOut(int aWalk, int someHours, int aGoal) {
            walk = aWalk;
            left = someHours;
            goal = aGoal;
            horn = 0;
        }

        void copy(House other) {
            wood = other.wood;
            isAlight = other.isAlight;
            kind = other.kind;
            v = other.v;
            row = other.row;
            setOut(other.walk, other.left, other.goal);
            horn = other.horn;
        }
    }

    /** How all is at one time: all that the image keeps. */
    private static final class Village {
        int houses = 0;
        final House[] homes = new House[HOUSES];
        final int[][] ways = new int[HOUSES][HOUSES];
        int weather = 0;
        int hour = 0;
        Land land = null;
        int nights = 0;
        final int[] nightWeather = new int[NIGHTS];
        final int[] nightMishaps = new int[NIGHTS];
        /** What the letters of tests stand for, for the house that is asked about. */
        private final int[] facts = new int[FACTS];

        Village() {
            for (int h = 0; h < HOUSES; h++) {
                homes[h] = new House();
            }
        }

        House find(int h) {
            return h >= 0 && h < houses && h < HOUSES ? homes[h] : null;
        }

        void copy(Village other) {
            houses = other.houses;
            weather = other.weather;
            hour = other.hour;
            land = other.land;
            nights = other.nights;
            for (int h = 0; h < HOUSES; h++) {
                homes[h].copy(other.homes[h]);
                System.arraycopy(other.ways[h], 0, ways[h], 0, HOUSES);
            }
            System.arraycopy(other.nightWeather, 0, nightWeather, 0, NIGHTS);
            System.arraycopy(other.nightMishaps, 0, nightMishaps, 0, NIGHTS);
        }

        int hoursBetween(int a, int b) {
            return a >= 0 && a < HOUSES && b >= 0 && b < HOUSES ? ways[a][b] : 0;
        }

        void join(int a, int b, int n) {
            if (a >= 0 && a < HOUSES && b >= 0 && b < HOUSES) {
                ways[a][b] = n;
                ways[b][a] = n;
            }
        }

        int litBits() {
            int bits = 0;
            for (int h = 0; h < houses && h < HOUSES; h++) {
                if (homes[h].isAlight) {
                    bits |= 1 << h;
                }
            }
            return bits;
        }

        int litCount() {
            return Integer.bitCount(litBits());
        }

        void payAll(int v) {
            for (int h = 0; h < houses && h < HOUSES; h++) {
                homes[h].kind = PAID;
                homes[h].v = v;
            }
        }

        /** Out, burn, horn or need of a house in the hour that comes. */
        int sum(int word, int h, int ofWeather) {
            House home = find(h);
            if (land == null || home == null) {
                return 0;
            }
            facts[0] = ofWeather;
            facts[1] = hour % DAY;
            facts[2] = h;
            facts[3] = home.kind;
            facts[4] = home.wood;
            facts[5] = Integer.bitCount(litBits());
            int all = 0;
            for (int c = 0; c < land.clauses && c < CLAUSES; c++) {
                if (land.word[c] == word && land.holds(c, facts)) {
                    all += land.amount[c];
                }
            }
            return Math.min(all, word == OUT ? 100 : 99);
        }

        /** Of ten, how often weather b comes behind a. */
        int tenthsOf(int a, int b) {
            int left = 10;
            for (int other = 0; other < WEATHERS; other++) {
                if (other != a) {
                    int n = land == null ? 0 : Math.min(left, land.lastNext(a, other));
                    if (other == b) {
                        return n;
                    }
                    left -= n;
                }
            }
            return left;
        }

        /** The house alight with the shortest way from this one, or -1. */
        int nearestFire(int h) {
            int best = -1;
            int least = MOST_WAY + 1;
            for (int other = 0; other < houses && other < HOUSES; other++) {
                int n = hoursBetween(h, other);
                if (homes[other].isAlight && n > 0 && n < least) {
                    least = n;
                    best = other;
                }
            }
            return best;
        }

        /** What the keeper of a house does in the hour that comes. */
        int choice(int h, int ofWeather) {
            House home = find(h);
            if (home == null) {
                return IDLE;
            }
            if (home.isAlight) {
                return isKeeping(home, h, ofWeather) ? KEEPS : LETS_OUT;
            }
            if (home.walk != NOBODY || nearestFire(h) < 0) {
                return IDLE;
            }
            return isSending(home, h, ofWeather) ? SENDS : IDLE;
        }

        private boolean isKeeping(House home, int h, int ofWeather) {
            switch (home.kind) {
                case ONE:
                    return (litBits() & (1 << h) - 1) == 0;
                case FREE:
                    return sum(NEED, h, ofWeather) >= home.v;
                case PAID:
                    return home.wood >= home.v;
                case TOLD:
                    return (home.row >> hour % DAY & 1) != 0;
                case RARE:
                    return Integer.bitCount(litBits() & ~(1 << h)) < home.v;
                default:
                    return true;
            }
        }

        private boolean isSending(House home, int h, int ofWeather) {
            switch (home.kind) {
                case EACH:
                case PAID:
                    return true;
                case ONE:
                case TOLD:
                    return (litBits() & (1 << h) - 1) == 0;
                case FREE:
                case RARE:
                    return sum(NEED, h, ofWeather) >= home.v;
                default:
                    return false;
            }
        }
    }

    /** A text that was read: its clauses, and their E as steps, each !, & and | behind its parts. */
    private static final class Land {
        int clauses = 0;
        int steps = 0;
        final int[] word = new int[CLAUSES];
        final int[] amount = new int[CLAUSES];
        /** Of a rule its first step, of a next the weather ahead. */
        final int[] from = new int[CLAUSES];
        /** Of a rule the end of its steps, of a next the weather behind. */
        final int[] to = new int[CLAUSES];
        final int[] step = new int[BYTES];
        final int[] sign = new int[BYTES];
        final int[] number = new int[BYTES];

        void addClause(int aWord, int n, int begin, int end) {
            if (clauses >= 0 && clauses < CLAUSES) {
                word[clauses] = aWord;
                amount[clauses] = n;
                from[clauses] = begin;
                to[clauses] = end;
                clauses++;
            }
        }

        void addStep(int aStep, int aSign, int aNumber) {
            if (steps >= 0 && steps < BYTES) {
                step[steps] = aStep;
                sign[steps] = aSign;
                number[steps] = aNumber;
                steps++;
            }
        }

        int lastNext(int a, int b) {
            int n = 0;
            for (int c = 0; c < clauses && c < CLAUSES; c++) {
                if (word[c] == NEXT && from[c] == a && to[c] == b) {
                    n = amount[c];
                }
            }
            return n;
        }

        /** Goes through a clause's steps; found's lowest bit is the newest of what is found. */
        boolean holds(int clause, int[] facts) {
            if (clause < 0 || clause >= CLAUSES) {
                return false;
            }
            int found = 0;
            for (int k = Math.max(0, from[clause]); k < to[clause] && k < BYTES; k++) {
                int newest = found & 1;
                if (step[k] == NOT) {
                    found ^= 1;
                } else if (step[k] == AND) {
                    found = found >> 1 & (newest | ~1);
                } else if (step[k] == OR) {
                    found = found >> 1 | newest;
                } else if (step[k] >= 0 && step[k] < FACTS && step[k] < facts.length) {
                    int order = Integer.compare(facts[step[k]], number[k]);
                    boolean is = sign[k] == '<' ? order < 0
                            : sign[k] == '>' ? order > 0 : order == 0;
                    found = found << 1 | (is ? 1 : 0);
                }
            }
            return (found & 1) != 0;
        }
    }

    /** The text that is fed, and its reading: place stops at the first byte that cannot be. */
    private static final class Reader {
        final int[] bytes = new int[BYTES];
        int length = 0;
        int place = 0;
        private Land land = null;

        void append(int sign) {
            if (length >= 0 && length < BYTES) {
                bytes[length] = sign;
                length++;
            }
        }

        boolean parse(Land into) {
            if (into == null) {
                return false;
            }
            land = into;
            land.clauses = 0;
            land.steps = 0;
            place = 0;
            for (int c = 1; c <= CLAUSES; c++) {
                int word = takeWord();
                if (word < 0 || !take(' ')) {
                    return false;
                }
                if (word == NEXT) {
                    if (!takeNext()) {
                        return false;
                    }
                } else {
                    int begin = land.steps;
                    int n = takeNumber();
                    if (n < 0 || !take(' ') || !takeEither(0)) {
                        return false;
                    }
                    land.addClause(word, n, begin, land.steps);
                }
                if (place >= length) {
                    return true;
                }
                if (c == CLAUSES || !take(';')) {
                    return false;
                }
            }
            return false;
        }

        private int sign() {
            return place >= 0 && place < length && place < BYTES ? bytes[place] : -1;
        }

        private boolean take(int sign) {
            if (sign() != sign) {
                return false;
            }
            place++;
            return true;
        }

        private boolean takeAll(String signs) {
            for (int k = 0; k < signs.length(); k++) {
                if (!take(signs.charAt(k))) {
                    return false;
                }
            }
            return true;
        }

        private int takeWord() {
            switch (sign()) {
                case 'o':
                    return takeAll("out") ? OUT : -1;
                case 'b':
                    return takeAll("burn") ? BURN : -1;
                case 'h':
                    return takeAll("horn") ? HORN : -1;
                default:
                    break;
            }
            if (!takeAll("ne")) {
                return -1;
            }
            if (sign() == 'x') {
                return takeAll("xt") ? NEXT : -1;
            }
            return takeAll("ed") ? NEED : -1;
        }

        /** A weather's figure; -1 if there is none. */
        private int takeWeather() {
            int figure = sign() - '0';
            if (figure < 0 || figure >= WEATHERS) {
                return -1;
            }
            place++;
            return figure;
        }

        /** A number of one or two digits; -1 if there is none. */
        private int takeNumber() {
            int n = -1;
            for (int k = 0; k < 2; k++) {
                int figure = sign() - '0';
                if (figure < 0 || figure > 9) {
                    return n;
                }
                place++;
                n = Math.max(n, 0) * 10 + figure;
            }
            return n;
        }

        private boolean takeNext() {
            int a = takeWeather();
            if (a < 0 || !take(' ')) {
                return false;
            }
            int b = takeWeather();
            if (b < 0 || !take(' ')) {
                return false;
            }
            int n = takeNumber();
            if (n < 0) {
                return false;
            }
            land.addClause(NEXT, n, a, b);
            return true;
        }

        /** An E: depth tells within how many ( and ! it stands. */
        private boolean takeEither(int depth) {
            for (int k = 0; k < BYTES; k++) {
                if (!takePart(depth)) {
                    return false;
                }
                for (int j = 0; j < BYTES && take('&'); j++) {
                    if (!takePart(depth)) {
                        return false;
                    }
                    land.addStep(AND, 0, 0);
                }
                if (k > 0) {
                    land.addStep(OR, 0, 0);
                }
                if (!take('|')) {
                    return true;
                }
            }
            return false;
        }

        private boolean takePart(int depth) {
            int first = sign();
            if (first != '!' && first != '(') {
                return takeTest(first);
            }
            if (depth >= NESTED) {
                return false;
            }
            place++;
            if (first == '(') {
                return takeEither(depth + 1) && take(')');
            }
            if (!takePart(depth + 1)) {
                return false;
            }
            land.addStep(NOT, 0, 0);
            return true;
        }

        private boolean takeTest(int first) {
            int letter = first < 0 ? -1 : LETTERS.indexOf((char) first);
            if (letter < 0) {
                return false;
            }
            place++;
            int sign = sign();
            if (sign != '<' && sign != '=' && sign != '>') {
                return false;
            }
            place++;
            int n = takeNumber();
            if (n < 0) {
                return false;
            }
            land.addStep(letter, sign, n);
            return true;
        }
    }

    /** Hours that pass in a village, and what is counted of them. */
    private static final class Hours {
        int worth = 0;
        int lacks = 0;
        private final int[] choices = new int[HOUSES];
        private final int[] burns = new int[HOUSES];
        private final int[] horns = new int[HOUSES];
        private final int[] goals = new int[HOUSES];

        void begin() {
            worth = 0;
            lacks = 0;
        }

        /** Counts the needs of the hour that comes, with and without fire. */
        void weigh(Village at, int weather) {
            for (int h = 0; h < at.houses && h < HOUSES; h++) {
                int need = at.sum(NEED, h, weather);
                if (at.homes[h].isAlight) {
                    worth += need;
                } else if (need > 0) {
                    lacks++;
                }
            }
        }

        void pass(Village at, int weather, int mishaps) {
            // all is looked at before anything changes: an hour goes by how it began
            for (int h = 0; h < at.houses && h < HOUSES; h++) {
                choices[h] = at.choice(h, weather);
                burns[h] = choices[h] == KEEPS ? at.sum(BURN, h, weather) : 0;
                horns[h] = at.homes[h].walk == BRINGS ? at.sum(HORN, h, weather) : 0;
                goals[h] = choices[h] == SENDS ? at.nearestFire(h) : -1;
            }
            for (int h = 0; h < at.houses && h < HOUSES; h++) {
                House home = at.homes[h];
                if (choices[h] == SENDS) {
                    home.setOut(GOES, at.hoursBetween(h, goals[h]), goals[h]);
                } else if (home.isAlight) {
                    burn(home, h, mishaps);
                }
            }
            for (int h = 0; h < at.houses && h < HOUSES; h++) {
                House home = at.homes[h];
                if (home.walk == GOES) {
                    goNearer(at, home, h);
                } else if (home.walk == BRINGS) {
                    bringNearer(home, h);
                }
            }
            at.weather = weather;
            at.hour++;
        }

        private void burn(House home, int h, int mishaps) {
            if (h < 0 || h >= HOUSES) {
                return;
            }
            if (choices[h] != KEEPS || home.wood < burns[h] || (mishaps >> h & 1) != 0) {
                home.isAlight = false;
            } else {
                home.wood -= burns[h];
            }
        }

        private void goNearer(Village at, House home, int h) {
            home.left--;
            if (home.left > 0) {
                return;
            }
            House there = at.find(home.goal);
            if (there != null && there.isAlight) {
                home.setOut(BRINGS, Math.max(1, at.hoursBetween(h, home.goal)), home.goal);
            } else {
                home.setOut(NOBODY, 0, 0);
            }
        }

        private void bringNearer(House home, int h) {
            home.left--;
            home.horn++;
            if (h < 0 || h >= HOUSES || home.horn > horns[h]) {
                home.setOut(NOBODY, 0, 0);
            } else if (home.left <= 0) {
                home.isAlight = true;
                home.setOut(NOBODY, 0, 0);
            }
        }

        /** How all would be behind the first n nights told by hand comes into then. */
        void passNights(Village now, Village then, int n) {
            then.copy(now);
            begin();
            for (int k = 0; k < n && k < NIGHTS; k++) {
                weigh(then, now.nightWeather[k]);
                pass(then, now.nightWeather[k], now.nightMishaps[k]);
            }
        }

        /** How much more worth there is of n hours, if a house were alight now. */
        int gain(Village now, Village then, int h, int n) {
            int less = 0;
            for (int turn = 0; turn < 2; turn++) {
                then.copy(now);
                House home = then.find(h);
                if (turn == 1 && home != null) {
                    home.isAlight = true;
                }
                begin();
                for (int k = 0; k < n; k++) {
                    weigh(then, now.weather);
                    pass(then, now.weather, 0);
                }
                if (turn == 0) {
                    less = worth;
                }
            }
            return worth - less;
        }
    }

    /** The fewest hours between houses, through houses. */
    private static final class Paths {
        private static final int FAR = 1000000;
        private final int[][] least = new int[HOUSES][HOUSES];
        private int houses = 0;

        void measure(Village at) {
            houses = Math.min(at.houses, HOUSES);
            for (int a = 0; a < houses; a++) {
                for (int b = 0; b < houses; b++) {
                    int n = at.ways[a][b];
                    least[a][b] = a == b ? 0 : n > 0 ? n : FAR;
                }
            }
            for (int mid = 0; mid < houses; mid++) {
                for (int a = 0; a < houses; a++) {
                    for (int b = 0; b < houses; b++) {
                        least[a][b] = Math.min(least[a][b], least[a][mid] + least[mid][b]);
                    }
                }
            }
        }

        int toFire(Village at, int h) {
            int best = FAR;
            for (int from = 0; from < houses; from++) {
                House home = at.find(from);
                if (h >= 0 && h < houses && home != null && home.isAlight) {
                    best = Math.min(best, least[from][h]);
                }
            }
            return best < FAR ? best : NO_WAY;
        }

        int widest() {
            int most = 0;
            for (int a = 0; a < houses; a++) {
                for (int b = 0; b < houses; b++) {
                    most = Math.max(most, least[a][b]);
                }
            }
            return most < FAR ? most : NO_WAY;
        }

        /** The fewest houses that have each house within reach; of several the least as bits. */
        int fewest(int reach) {
            int best = NO_WAY;
            int few = HOUSES + 1;
            for (int set = 0; set < 1 << houses; set++) {
                if (Integer.bitCount(set) < few && isReached(set, reach)) {
                    few = Integer.bitCount(set);
                    best = set;
                }
            }
            return best;
        }

        private boolean isReached(int set, int reach) {
            for (int h = 0; h < houses; h++) {
                boolean is = false;
                for (int from = 0; from < houses; from++) {
                    is = is || ((set >> from & 1) != 0 && least[from][h] <= reach);
                }
                if (!is) {
                    return false;
                }
            }
            return true;
        }
    }

    /** How likely all are out behind some hours, and the mean of their worth: both over below. */
    private static final class Odds {
        private static final int SETS = 1 << ODDS_HOUSES, TURNS = WEATHERS * SETS;
        long ended = 0;
        long worth = 0;
        long below = 1;
        private final Village at = new Village();

        /** How many courses n hours may take: an hour's turn is a weather and a set of mishaps. */
        int begin(int houses, int n) {
            ended = 0;
            worth = 0;
            below = 1;
            int courses = 1;
            for (int k = 0; k < n && k < ODDS_HOURS; k++) {
                courses *= TURNS;
                below *= 10;
                for (int h = 0; h < houses && h < ODDS_HOUSES; h++) {
                    below *= 100;
                }
            }
            return courses;
        }

        /** Goes one course of n hours, and adds what it comes to by how likely it is. */
        void follow(Hours hours, Village now, int n, int course) {
            at.copy(now);
            long share = 1;
            int rest = course;
            hours.begin();
            for (int k = 0; k < n && k < ODDS_HOURS; k++) {
                int weather = rest % TURNS / SETS;
                int set = rest % SETS;
                rest /= TURNS;
                share *= at.tenthsOf(at.weather, weather) * shareOf(weather, set);
                if (share == 0) {
                    return;
                }
                hours.weigh(at, weather);
                hours.pass(at, weather, set);
            }
            worth += share * hours.worth;
            if (at.litCount() == 0) {
                ended += share;
            }
        }

        /** How likely just this set of houses has mishaps, of a hundred for each house. */
        private long shareOf(int weather, int set) {
            long share = set >= 1 << at.houses ? 0 : 1;
            for (int h = 0; h < at.houses && h < ODDS_HOUSES; h++) {
                int out = at.homes[h].isAlight ? at.sum(OUT, h, weather) : 0;
                share *= (set >> h & 1) != 0 ? out : 100 - out;
            }
            return share;
        }

        /** For a and b not below 0, and not both 0. */
        static long commonDivisor(long a, long b) {
            long greater = a;
            long less = b;
            for (int k = 0; k < 1000 && less != 0; k++) {
                long rest = greater % less;
                greater = less;
                less = rest;
            }
            return greater;
        }
    }

    /** What keepers do with a number, each body by its kind, and the trace of it. */
    private static final class Acts {
        int ran = 0;
        final int[] numbers = new int[TRACED];
        private int kind = KEEPER;
        private int v = 0;
        private int i = 0;

        /** A trace begins anew, also for a house that there is not. */
        void begin(House home, int h) {
            ran = 0;
            if (home != null) {
                kind = home.kind;
                v = home.v;
                i = h;
            }
        }

        private void note(int number) {
            if (ran >= 0 && ran < TRACED) {
                numbers[ran] = number;
            }
            ran++;
        }

        int keepsBody(int x) {
            switch (kind) {
                case ONE:
                case TOLD:
                    note(30);
                    return plainKeeps(x * 3);
                case PAID:
                    note(50);
                    return -plainKeeps(x);
                case RARE:
                    note(71);
                    return plainKeeps(x) ^ v;
                default:
                    return plainKeeps(x);
            }
        }

        int sendsBody(int x) {
            switch (kind) {
                case EACH:
                    note(20);
                    return plainSends(x) ^ 6;
                case PAID:
                    // its super is the body of EACH
                    note(51);
                    note(20);
                    return plainSends(x + 1) ^ 6;
                case RARE:
                    note(70);
                    int sent = plainSends(x);
                    return sent + plainKeeps(2);
                default:
                    return plainSends(x);
            }
        }

        int tellsBody(int x) {
            boolean isFree = kind == FREE || kind == RARE;
            if (isFree) {
                note(40);
            } else if (kind == TOLD) {
                note(60);
            }
            // from here on all kinds run the body of KEEPER
            note(12);
            int told = sendsBody(kind == TOLD ? x - i : x) * 2;
            return isFree ? told + sendsBody(1) : told;
        }

        private int plainKeeps(int x) {
            note(10);
            return x + i;
        }

        private int plainSends(int x) {
            note(11);
            return keepsBody(x) - v;
        }
    }

    /** A row of items of one sort, or nothing. */
    private static final class Tape {
        int sort = -1;
        int size = 0;
        final long[] items = new long[ITEMS];

        void start(int aSort, int n) {
            sort = aSort;
            size = n;
            for (int k = 0; k < ITEMS; k++) {
                items[k] = 0;
            }
        }

        boolean isRow() {
            return sort >= 0;
        }

        boolean has(int i, int n) {
            return n >= 0 && i >= 0 && n <= size && i <= size - n;
        }

        long get(int i) {
            return i >= 0 && i < size && i < ITEMS ? items[i] : 0;
        }

        void put(int i, long v) {
            if (i >= 0 && i < size && i < ITEMS) {
                items[i] = cut(v);
            }
        }

        private long cut(long v) {
            switch (sort) {
                case 0:
                    return (byte) v;
                case 1:
                    return (short) v;
                case 2:
                    return (int) v;
                case BOOLEANS:
                    return v != 0 ? 1 : 0;
                default:
                    return v;
            }
        }
    }
}
