/**
 * The edges of what is asked: "Terms" 3 up to FREED, and promises 16 to 24. Each test's remark
 * quotes the sentence that it holds.
 */
public final class AskedEdgesTest {
    private static final Due DUE = new Due("AskedEdgesTest");
    private static final int MIN = Due.MIN, MAX = Due.MAX;
    private static final int NONE = Due.NONE, BAD = Due.BAD, STATE = Due.STATE, NO_WAY = Due.NO_WAY;
    private static final int MATCH_NONE = -100001, MATCH_BAD = -100002;
    private static final long NO = Due.NO;

    public static void main(String[] args) {
        DUE.runAll(AskedEdgesTest.class);
    }

    /** Six houses in a row, so many hours from each to the next. */
    private static FireFromFire row(int way, int alight) {
        FireFromFire x = Due.village(6, 5, alight);
        for (int h = 1; h < 6; h++) {
            x.way(h - 1, h, way);
        }
        return x;
    }

    // promise 16: "NONE", for the house
    static void promise16NoneHouse() {
        FireFromFire x = Due.village(2, 5, 1);
        DUE.is("quickest(0, 0)", x.quickest(0, 0), 0);
        DUE.is("quickest(1, 0)", x.quickest(1, 0), NO_WAY);
        DUE.each("quickest(n, 0)", NONE, n -> x.quickest(n, 0), -1, 2, 6, MIN, MAX);
        DUE.each("quickest(n, 1)", NONE, n -> x.quickest(n, 1), -1, 2, 6, MIN, MAX);
        FireFromFire six = row(1, 1);
        DUE.is("quickest(5, 0)", six.quickest(5, 0), 5);
        DUE.is("quickest(6, 0)", six.quickest(6, 0), NONE);
    }

    // promise 16: "NONE", for what: 0 and 1 alone
    static void promise16NoneWhat() {
        FireFromFire x = Due.village(1, 5, 1);
        DUE.is("quickest(0, 0)", x.quickest(0, 0), 0);
        DUE.is("quickest(0, 1)", x.quickest(0, 1), 1);
        DUE.each("quickest(0, n)", NONE, n -> x.quickest(0, n), -1, 2, MIN, MAX);
    }

    // terms 3: "QUICKEST ..: of all ways through HOUSES from some HOUSE ALIGHT the fewest hours"
    static void promise16FewestHours() {
        FireFromFire x = row(9, 0b000001);
        for (int h = 0; h < 6; h++) {
            DUE.is("in a row, house " + h, x.quickest(h, 0), 9 * h);
        }
        x.way(0, 5, 9);
        int[] ring = {0, 9, 18, 27, 18, 9};
        for (int h = 0; h < 6; h++) {
            DUE.is("in a ring, house " + h, x.quickest(h, 0), ring[h]);
        }
        x.light(3, true);
        int[] two = {0, 9, 9, 0, 9, 9};
        for (int h = 0; h < 6; h++) {
            DUE.is("from one of two, house " + h, x.quickest(h, 0), two[h]);
        }
        FireFromFire y = Due.village(3, 5, 0b001);
        y.way(0, 2, 7);
        y.way(0, 1, 3);
        y.way(1, 2, 4);
        DUE.is("as long through a house", y.quickest(2, 0), 7);
        y.way(1, 2, 3);
        DUE.is("less through a house", y.quickest(2, 0), 6);
        y.way(1, 2, 5);
        DUE.is("more through a house", y.quickest(2, 0), 7);
    }

    // terms 3: "(-5: none; 0, if it is ALIGHT itself)"
    static void promise16NoneOrItself() {
        FireFromFire x = Due.village(3, 5, 0b001);
        x.way(1, 2, 1);
        DUE.is("not joined", x.quickest(1, 0), NO_WAY);
        DUE.is("itself, without a way", x.quickest(0, 0), 0);
        x.light(2, true);
        DUE.is("the next one", x.quickest(1, 0), 1);
        DUE.is("itself, with a way", x.quickest(2, 0), 0);
        x.light(2, false);
        x.light(0, false);
        DUE.each("quickest(n, 0) without fire", NO_WAY, n -> x.quickest(n, 0), 0, 1, 2);
    }

    // terms 3: "HOLDS: whether a horn would hold so long": as long is well
    static void promise16Holds() {
        for (int way = 1; way <= 9; way++) {
            for (int horn = way - 1; horn <= way + 1; horn++) {
                FireFromFire x = Due.village(2, 5, 1, "horn " + horn + " w<3");
                x.way(0, 1, way);
                DUE.is("way " + way + ", horn " + horn, x.quickest(1, 1), horn >= way ? 1 : 0);
            }
        }
        FireFromFire far = row(9, 1);
        Due.land(far, "horn 44 w<3");
        DUE.is("way 45, horn 44", far.quickest(5, 1), 0);
        Due.land(far, "horn 45 w<3");
        DUE.is("way 45, horn 45", far.quickest(5, 1), 1);
    }

    // promise 16: "HOLDS (.. 0, if there is none)"; of one ALIGHT itself it holds 0 hours
    static void promise16HoldsOfNone() {
        FireFromFire x = Due.village(2, 5, 0b01, "horn 99 w<3");
        DUE.is("no way", x.quickest(1, 1), 0);
        x.light(0, false);
        DUE.is("no fire", x.quickest(0, 1), 0);
        FireFromFire y = Due.village(1, 5, 1, "horn 0 w<3");
        DUE.is("itself", y.quickest(0, 1), 1);
        DUE.is("itself, without a land", Due.village(1, 5, 1).quickest(0, 1), 1);
    }

    // terms 3: "(HORN of that HOUSE now)"; promise 16: "with the WEATHER as it is"
    static void promise16HornOfThatHouseNow() {
        FireFromFire x = Due.village(3, 5, 0b001, "horn 2 i=1&h=0;horn 1 i=1&w=1;horn 1 i=2");
        x.way(0, 1, 2);
        x.way(0, 2, 2);
        DUE.is("its own", x.quickest(1, 1), 1);
        DUE.is("less than its own", x.quickest(2, 1), 0);
        x.go(0, 0);
        DUE.is("in another hour", x.quickest(1, 1), 0);
        FireFromFire y = Due.village(2, 5, 0b01, "horn 2 w=1");
        y.way(0, 1, 2);
        DUE.is("dry", y.quickest(1, 1), 0);
        y.go(1, 0);
        DUE.is("rain", y.quickest(1, 1), 1);
        y.go(2, 0);
        DUE.is("storm", y.quickest(1, 1), 0);
    }

    // promise 17: "BAD"; terms 3: "r (0 .. 40)"
    static void promise17Bad() {
        FireFromFire x = row(9, 0);
        DUE.is("where(0)", x.where(0), 63);
        DUE.is("where(40)", x.where(40), 0b000010);
        DUE.each("where(n)", BAD, x::where, -1, 41, MIN, MAX);
        FireFromFire none = new FireFromFire();
        DUE.each("where(n) without houses", BAD, none::where, -1, 41);
    }

    // terms 3: "each HOUSE no more than r .. hours of QUICKEST ways from one"
    static void promise17NoMoreThanR() {
        FireFromFire x = row(9, 0);
        int[] rs = {8, 9, 17, 18, 26, 27, 35, 36};
        int[] dues = {0b111111, 0b010010, 0b010010, 0b001001, 0b001001, 0b000100, 0b000100, 0b000010};
        for (int k = 0; k < rs.length; k++) {
            DUE.is("where(" + rs[k] + ")", x.where(rs[k]), dues[k]);
        }
        FireFromFire y = row(8, 0);
        DUE.is("the whole row", y.where(40), 0b000001);
        DUE.is("not quite", y.where(39), 0b000010);
    }

    // terms 3: "the fewest HOUSES ..; of several the least as bits"
    static void promise17OfSeveralTheLeast() {
        FireFromFire x = row(1, 0);
        DUE.is("of one each", x.where(5), 0b000001);
        DUE.is("of one each, of two", x.where(4), 0b000010);
        DUE.is("of one each, of two in the middle", x.where(3), 0b000100);
        DUE.is("of two each", x.where(2), 0b001001);
        DUE.is("two alone", x.where(1), 0b010010);
        FireFromFire star = Due.village(4, 5, 0);
        star.way(3, 0, 1);
        star.way(3, 1, 1);
        star.way(3, 2, 1);
        DUE.is("fewer are ahead of less as bits", star.where(1), 0b1000);
        DUE.is("two apart", star.where(2), 0b0001);
    }

    // terms 3: WHERE, "being ALIGHT, would have": not of those that are; houses that are not joined
    static void promise17WouldHave() {
        for (int alight = 0; alight < 8; alight++) {
            FireFromFire x = Due.village(3, 5, alight);
            x.way(0, 1, 3);
            DUE.is("alight " + alight, x.where(40), 0b101);
            DUE.is("alight " + alight, x.where(2), 0b111);
        }
        DUE.is("six that are not joined", Due.village(6, 5, 1).where(40), 63);
        DUE.is("one", Due.village(1, 5, 0).where(0), 1);
        DUE.is("no house", new FireFromFire().where(0), 0);
        DUE.is("no house", new FireFromFire().where(40), 0);
    }

    // terms 3: "APART: the most hours that two HOUSES are from one another by QUICKEST ways"
    static void promise18TheMostHours() {
        DUE.is("a row", row(9, 0).apart(), 45);
        DUE.is("a row of 1", row(1, 0).apart(), 5);
        FireFromFire x = row(9, 0);
        x.way(0, 5, 1);
        DUE.is("a ring", x.apart(), 19);
        FireFromFire two = Due.village(2, 5, 0);
        two.way(0, 1, 9);
        DUE.is("two", two.apart(), 9);
        two.way(0, 1, 1);
        DUE.is("two, nearer", two.apart(), 1);
    }

    // terms 3: "(-5: some two are not joined; 0: fewer than two)"
    static void promise18NotJoinedOrFewerThanTwo() {
        DUE.is("none", new FireFromFire().apart(), 0);
        DUE.is("one", Due.village(1, 5, 1).apart(), 0);
        DUE.is("two", Due.village(2, 5, 3).apart(), NO_WAY);
        FireFromFire x = row(2, 0);
        x.way(4, 5, 0);
        DUE.is("the last one alone", x.apart(), NO_WAY);
        x.way(0, 5, 1);
        DUE.is("joined otherwise", x.apart(), 9);
        x.way(0, 1, 0);
        DUE.is("two and four", x.apart(), NO_WAY);
    }

    private static void fraction(String what, FireFromFire x, int n, int of, long above, long below) {
        DUE.is(what + ": above", x.ends(n, of, 0), above);
        DUE.is(what + ": below", x.ends(n, of, 1), below);
    }

    // promise 19: "NO"; terms 3: "n HOURS (1, 2)"
    static void promise19NoHours() {
        FireFromFire x = Due.village(1, 5, 1, "out 10 w<3");
        fraction("one hour", x, 1, 0, 1, 10);
        fraction("two hours", x, 2, 0, 19, 100);
        DUE.each("ends(n, 0, 0)", NO, n -> x.ends(n, 0, 0), -1, 0, 3, MIN, MAX);
        DUE.each("ends(n, 1, 1)", NO, n -> x.ends(n, 1, 1), -1, 0, 3, MIN, MAX);
    }

    // promise 19: "NO": "(what 0), MEAN (1)", "part 0 above, 1 below"
    static void promise19NoWhatOrPart() {
        FireFromFire x = Due.village(1, 5, 1, "out 10 w<3;need 3 w<3");
        fraction("what 0", x, 1, 0, 1, 10);
        fraction("what 1", x, 1, 1, 3, 1);
        DUE.each("ends(1, n, 0)", NO, n -> x.ends(1, n, 0), -1, 2, MIN, MAX);
        DUE.each("ends(1, 0, n)", NO, n -> x.ends(1, 0, n), -1, 2, MIN, MAX);
    }

    // terms 3: "(3 HOUSES at most)"
    static void promise19ThreeHouses() {
        FireFromFire x = new FireFromFire();
        Due.land(x, "out 50 w<3;need 1 w<3");
        int[] belows = {1, 2, 4, 8};
        for (int houses = 0; houses <= 3; houses++) {
            fraction(houses + " houses", x, 1, 0, 1, belows[houses]);
            fraction(houses + " houses, mean", x, 1, 1, houses, 1);
            x.house(5, true);
        }
        for (int k = 0; k < 8; k++) {
            DUE.is("of four houses", x.ends(1 + k / 4, k / 2 % 2, k % 2), NO);
        }
        x.light(3, false);
        DUE.is("of four houses, three alight", x.ends(1, 0, 0), NO);
    }

    // terms 3: "a fraction in lowest terms"
    static void promise19LowestTerms() {
        int[] outs = {0, 1, 2, 25, 48, 50, 99};
        int[] aboves = {0, 1, 1, 1, 12, 1, 99};
        int[] belows = {1, 100, 50, 4, 25, 2, 100};
        for (int k = 0; k < outs.length; k++) {
            FireFromFire x = Due.village(1, 5, 1, "out " + outs[k] + " w<3");
            fraction("out " + outs[k], x, 1, 0, aboves[k], belows[k]);
        }
        FireFromFire low = Due.village(1, 5, 1, "out 1 w=1;need 1 w=2;next 0 1 3;next 0 2 3");
        fraction("in lowest terms as it is", low, 1, 0, 3, 1000);
        fraction("in lowest terms as it is, mean", low, 1, 1, 3, 10);
        FireFromFire sure = Due.village(3, 5, 7, "out 99 w<3;out 1 w<3;need 7 w<3");
        fraction("out 100", sure, 1, 0, 1, 1);
        fraction("out 100, two hours", sure, 2, 0, 1, 1);
        fraction("its mean", sure, 2, 1, 21, 1);
        FireFromFire never = Due.village(3, 5, 7);
        fraction("no land", never, 2, 0, 0, 1);
        fraction("no land, mean", never, 2, 1, 0, 1);
        FireFromFire least = Due.village(3, 5, 7, "out 1 w<3");
        fraction("one of a million", least, 1, 0, 1, 1000000);
        FireFromFire fine = Due.village(3, 5, 7, "out 1 w<3;need 1 i=0");
        fraction("a mean of hundredths", fine, 2, 1, 199, 100);
    }

    // terms 3: "no HOUSE is ALIGHT behind them": also those that were out as it began
    static void promise19NoFireAtAll() {
        FireFromFire x = Due.village(3, 5, 0, "out 50 w<3;need 9 w<3");
        fraction("none alight", x, 1, 0, 1, 1);
        fraction("none alight, two hours", x, 2, 0, 1, 1);
        fraction("none alight, mean", x, 2, 1, 0, 1);
        x.light(1, true);
        fraction("one alight", x, 1, 0, 1, 2);
        fraction("one alight, mean", x, 1, 1, 9, 1);
    }

    // terms 3: "(the first one is that which follows the one now)"
    static void promise19TheFirstFollows() {
        FireFromFire x = Due.village(1, 5, 1, "next 0 1 3;next 0 2 2;next 1 2 10;out 50 w=1;out 20 w=2;need 5 w>0");
        fraction("an hour", x, 1, 0, 19, 100);
        fraction("an hour, mean", x, 1, 1, 5, 2);
        // rain, then storm: 3/10 * (1/2 + 1/2 * 1/5); storm twice: 2/10 * (1 - 16/25); dry, then as above
        fraction("two hours", x, 2, 0, 347, 1000);
        x.go(1, 0);
        fraction("rain now, so storm", x, 1, 0, 1, 5);
        fraction("rain now, so storm, two hours", x, 2, 0, 9, 25);
    }

    // terms 3: "each ALIGHT one being among the MISHAPS with odds of OUT, by itself"
    static void promise19ByItself() {
        FireFromFire x = Due.village(3, 5, 0b111, "out 50 i=0;out 20 i=1;out 10 i=2;need 1 i=2");
        fraction("three", x, 1, 0, 1, 100);
        fraction("mean of one of them, two hours", x, 2, 1, 19, 10);
        x.light(1, false);
        fraction("one isn't alight", x, 1, 0, 1, 20);
        FireFromFire a = Due.village(2, 5, 0b11, "out 50 a=2;out 10 a=1");
        fraction("odds as each hour begins", a, 2, 0, 29, 80);
    }

    // promise 20: "LASTS": "(0 .. 200)": 0
    static void promise20Zero() {
        DUE.is("no house", new FireFromFire().lasts(), 0);
        DUE.is("none alight", Due.village(6, 5, 0).lasts(), 0);
        FireFromFire x = Due.village(2, 5, 0b10, "burn 6 w<3");
        DUE.is("out in the first hour", x.lasts(), 1);
        x.wood(1, 6);
        DUE.is("out in the second hour", x.lasts(), 2);
        x.light(1, false);
        DUE.is("out now", x.lasts(), 0);
    }

    // promise 20: "LASTS": "(0 .. 200)", "(-5: never)": 199, 200, and no 201
    static void promise20Long() {
        int[] hours = {6, 7, 8};
        int[] dues = {199, 200, NO_WAY};
        for (int k = 0; k < 3; k++) {
            FireFromFire x = Due.village(1, 8, 1, "burn 1 h=" + hours[k]);
            DUE.is("burnt in hours " + hours[k], x.lasts(), dues[k]);
            x.wood(0, 7);
            DUE.is("with less wood", x.lasts(), 176 + hours[k] - 7);
            x.wood(0, 9);
            DUE.is("with more wood", x.lasts(), NO_WAY);
        }
        DUE.is("never", Due.village(1, 0, 1).lasts(), NO_WAY);
    }

    // terms 3: "WEATHER staying, no MISHAPS": whatever follows, whatever is OUT
    static void promise20WeatherStays() {
        FireFromFire x = Due.village(1, 20, 1, "burn 1 w=0;burn 2 w=1;out 99 w<3;next 0 1 10;next 1 0 10");
        DUE.is("dry", x.lasts(), 21);
        x.go(1, 0);
        DUE.is("rain", x.lasts(), 10);
        x.go(2, 0);
        DUE.is("storm", x.lasts(), NO_WAY);
    }

    // terms 3: "first no HOUSE is ALIGHT": of several houses; fire on its way counts nothing
    static void promise20NoHouse() {
        FireFromFire x = Due.village(6, 0, 0b100001, "burn 1 w<3");
        x.wood(5, 3);
        DUE.is("the last one", x.lasts(), 4);
        FireFromFire y = Due.village(2, 1, 1, "burn 1 i=0;horn 9 w<3");
        y.way(0, 1, 1);
        y.keeper(1, 1, 0, 0);
        DUE.is("brought as it goes out", y.lasts(), NO_WAY);
        y.way(0, 1, 2);
        DUE.is("gone for as it goes out", y.lasts(), 2);
    }

    /** House 0 has fire for two hours, house 1 has it from the fourth on: none has it behind three. */
    private static FireFromFire gap() {
        FireFromFire x = Due.village(2, 2, 0b01, "burn 1 i=0;horn 9 w<3");
        x.way(0, 1, 2);
        x.keeper(1, 4, 0, 0);
        return x;
    }

    // terms 3: "first no HOUSE is ALIGHT": also if one is alight again later
    static void promise20First() {
        FireFromFire x = gap();
        DUE.is("lasts", x.lasts(), 3);
        int[] dues = {1, 1, 0, 2, 2};
        for (int hour = 0; hour < 5; hour++) {
            DUE.is("alight behind hour " + hour, x.go(0, 0), dues[hour]);
        }
        DUE.is("then it lasts", x.lasts(), NO_WAY);
    }

    // terms 2: "All that follows is asked, goes on from how all is": the hour, and who is under way
    static void promises19To23GoOnFromHowAllIs() {
        FireFromFire x = gap();
        Due.land(x, "burn 1 i=0;horn 9 w<3;need 1 i=1&h=3;out 50 i=0");
        int[] lasts = {3, 2, 1, 0, NO_WAY};
        int[] laws = {0, NO_WAY, 0, 0, 0};
        int[] matches = {0, 0, 1, 1, 0};
        int[] aboves = {1, 1, 1, 0, 0};
        int[] belows = {2, 2, 1, 1, 1};
        for (int hour = 0; hour < 5; hour++) {
            DUE.is("lasts in hour " + hour, x.lasts(), lasts[hour]);
            DUE.is("law(2) in hour " + hour, x.law(2), laws[hour]);
            DUE.is("match(1, 2) in hour " + hour, x.match(1, 2), matches[hour]);
            fraction("ends in hour " + hour, x, 1, 0, aboves[hour], belows[hour]);
            x.go(0, 0);
        }
    }

    // promise 21: "-100001: NONE"
    static void promise21None() {
        FireFromFire x = Due.village(2, 5, 0, "need 1 w<3");
        DUE.is("match(0, 1)", x.match(0, 1), 1);
        DUE.is("match(1, 1)", x.match(1, 1), 1);
        DUE.each("match(n, 1)", MATCH_NONE, n -> x.match(n, 1), -1, 2, 6, MIN, MAX);
        FireFromFire six = Due.village(6, 5, 0, "need 1 w<3");
        DUE.is("match(5, 1)", six.match(5, 1), 1);
        DUE.is("match(6, 1)", six.match(6, 1), MATCH_NONE);
    }

    // promise 21: "-100002: BAD"; terms 3: "n HOURS (1 .. 48)"
    static void promise21Bad() {
        FireFromFire x = Due.village(2, 5, 0, "need 1 w<3");
        DUE.is("match(0, 1)", x.match(0, 1), 1);
        DUE.is("match(0, 2)", x.match(0, 2), 2);
        DUE.is("match(0, 47)", x.match(0, 47), 47);
        DUE.is("match(0, 48)", x.match(0, 48), 48);
        DUE.each("match(0, n)", MATCH_BAD, n -> x.match(0, n), -1, 0, 49, MIN, MAX);
    }

    // promise 21: "-100001: NONE; -100002: BAD": the first that its words name
    static void promise21NoneAheadOfBad() {
        FireFromFire x = Due.village(2, 5, 0);
        DUE.is("match(2, 0)", x.match(2, 0), MATCH_NONE);
        DUE.is("match(-1, 49)", x.match(-1, 49), MATCH_NONE);
        DUE.is("match(1, 49)", x.match(1, 49), MATCH_BAD);
    }

    // terms 3: "if it were ALIGHT now, than as it is": 0 of one that is; below 0 of one that harms
    static void promise21MoreOrLess() {
        FireFromFire x = Due.village(2, 5, 0b10, "need 5 i=1;need 2 i=0");
        DUE.is("alight already", x.match(1, 48), 0);
        DUE.is("another fire more", x.match(0, 48), 96);
        x.keeper(1, 2, 0, 0);
        DUE.is("a fire that lets the other one out, first hour", x.match(0, 1), 2);
        DUE.is("a fire that lets the other one out", x.match(0, 2), -1);
        DUE.is("a fire that lets the other one out, long", x.match(0, 48), 96 - 47 * 5);
        FireFromFire most = Due.village(6, 5, 0, "need 99 w<3;horn 9 w<3");
        for (int h = 1; h < 6; h++) {
            most.way(0, h, 1);
            most.keeper(h, 1, 0, 0);
        }
        DUE.is("a fire that all others fetch", most.match(0, 48), 48 * 99 + 5 * 46 * 99);
    }

    // terms 3: MATCH: "WEATHER staying, no MISHAPS"
    static void promise21WeatherStays() {
        FireFromFire x = Due.village(1, 9, 0, "need 1 w=0;need 10 w=1;burn 3 w=1;out 99 w<3;next 0 1 10");
        DUE.is("dry", x.match(0, 48), 48);
        x.go(1, 0);
        DUE.is("rain: three hours with wood, and one as it goes out", x.match(0, 48), 40);
    }

    /** House 0 is alight, house 1 is not; what is asked of house 0 in a land. */
    private static int price(String land) {
        FireFromFire x = Due.village(2, 5, 0b01, land);
        x.way(0, 1, 9);
        return x.asked(0);
    }

    // promise 22: "NONE"
    static void promise22None() {
        FireFromFire x = Due.village(2, 5, 0b11);
        DUE.each("asked(n)", 0, x::asked, 0, 1);
        DUE.each("asked(n)", NONE, x::asked, -1, 2, 6, MIN, MAX);
        FireFromFire six = Due.village(6, 5, 63);
        DUE.is("asked(5)", six.asked(5), 0);
        DUE.is("asked(6)", six.asked(6), NONE);
    }

    // promise 22: "STATE: it is not ALIGHT"; "NONE; STATE": the first that its words name
    static void promise22State() {
        FireFromFire x = Due.village(2, 5, 0b01);
        DUE.is("alight", x.asked(0), 0);
        DUE.is("not alight", x.asked(1), STATE);
        x.light(1, true);
        DUE.is("alight now", x.asked(1), 0);
        x.light(0, false);
        DUE.is("not alight now", x.asked(0), STATE);
        DUE.is("no such house", x.asked(2), NONE);
    }

    // terms 3: "the greatest price p (0 .. 99)"
    static void promise22Price0To99() {
        DUE.is("98", price("need 4 w<3;need 2 h=0"), 98);
        DUE.is("99", price("need 4 w<3;need 3 h=0"), 99);
        DUE.is("100 is 99", price("need 4 w<3;need 4 h=0"), 99);
        DUE.is("the most", price("need 99 w<3"), 99);
        DUE.is("1", price("need 1 h=5"), 1);
        DUE.is("0", price("need 0 w<3"), 0);
    }

    // terms 3: "MATCH of 24 HOURS is p or more"
    static void promise22Of24Hours() {
        DUE.is("the last of 24", price("need 7 h=23"), 7);
        DUE.is("the first, and no 25th", price("need 7 h=0"), 7);
        FireFromFire x = Due.village(2, 5, 0b01, "need 7 h=0");
        x.way(0, 1, 9);
        Due.go(x, 0, 1);
        DUE.is("the last of 24 from hour 1 on", x.asked(0), 7);
    }

    // terms 3: "0: for none"
    static void promise22ForNone() {
        FireFromFire x = Due.village(3, 5, 0b011, "need 4 w<3");
        DUE.is("no way", x.asked(0), 0);
        x.way(0, 1, 1);
        DUE.is("a way to one alight alone", x.asked(0), 0);
        x.way(1, 2, 1);
        DUE.is("a way through a house", x.asked(0), 0);
        DUE.is("the one it would send to", x.asked(1), 96);
        FireFromFire y = Due.village(3, 5, 0b010, "need 4 i=1");
        y.way(0, 1, 1);
        y.keeper(1, 2, 0, 0);
        DUE.is("a match below 0", y.asked(1), 0);
    }

    // terms 3: "here is where it would send to (whatever its KEEPER)"
    static void promise22WhereItWouldSendTo() {
        FireFromFire x = Due.village(4, 5, 0b0111, "need 1 i=3");
        x.way(1, 3, 5);
        x.way(2, 3, 5);
        x.way(0, 3, 6);
        DUE.is("farther", x.asked(0), 0);
        DUE.is("the least of two as near", x.asked(1), 24);
        DUE.is("not the other", x.asked(2), 0);
        for (int kind = 0; kind <= 6; kind++) {
            x.keeper(3, kind, 0, 0xffffff);
            boolean keeps = kind != 2 && kind != 6;
            DUE.is("kind " + kind, x.asked(1), keeps ? 24 : 1);
        }
    }

    // terms 3: "the greatest price p .. such that for some other HOUSE"
    static void promise22OfSomeOtherHouse() {
        FireFromFire x = Due.village(6, 5, 0b000100, "need 1 i=0;need 3 i=5;need 2 i=3");
        x.way(2, 0, 1);
        DUE.is("house 0", x.asked(2), 24);
        x.way(2, 5, 9);
        DUE.is("house 5", x.asked(2), 72);
        x.way(2, 3, 5);
        DUE.is("still house 5", x.asked(2), 72);
        x.light(5, true);
        DUE.is("one that is alight doesn't ask", x.asked(2), 48);
    }

    // promise 23: "BAD"; terms 3: "behind n HOURS (1 .. 99)"
    static void promise23Bad() {
        FireFromFire x = Due.village(1, 98, 1, "burn 1 w<3");
        DUE.is("law(1)", x.law(1), 0);
        DUE.is("law(98)", x.law(98), 0);
        DUE.is("law(99)", x.law(99), NO_WAY);
        x.wood(0, 99);
        DUE.is("law(99) with more wood", x.law(99), 0);
        DUE.each("law(n)", BAD, x::law, -1, 0, 100, MIN, MAX);
        DUE.is("law(0) without houses", new FireFromFire().law(0), BAD);
    }

    // terms 3: "the least v (0 .. 9)"
    static void promise23LeastV() {
        for (int v = 1; v <= 10; v++) {
            FireFromFire x = Due.village(2, 9, 0b11, "burn 99 a>1&h>0");
            x.wood(0, v - 1);
            DUE.is("behind one hour", x.law(1), 0);
            DUE.is("house 0 has " + (v - 1) + " of wood", x.law(2), v <= 9 ? v : NO_WAY);
            DUE.is("longer", x.law(99), v <= 9 ? v : NO_WAY);
        }
    }

    // terms 3: "(-5: none)"
    static void promise23None() {
        DUE.is("no house", new FireFromFire().law(1), NO_WAY);
        DUE.is("none alight", Due.village(6, 99, 0).law(1), NO_WAY);
        DUE.is("one alight", Due.village(6, 99, 32).law(1), 0);
        FireFromFire x = Due.village(1, 0, 1, "burn 1 w<3");
        DUE.is("out in the first hour", x.law(1), NO_WAY);
    }

    // terms 3: "some HOUSE is ALIGHT behind n HOURS": behind them, not all the time
    static void promise23BehindNHours() {
        FireFromFire x = gap();
        int[] dues = {0, 0, NO_WAY, 0, 0};
        for (int n = 1; n <= 5; n++) {
            DUE.is("law(" + n + ")", x.law(n), dues[n - 1]);
        }
        DUE.is("law(99)", x.law(99), 0);
    }

    // terms 3: "all KEEPERS being PAID with it": they keep by wood, they send, they are of KIND 4
    static void promise23AllPaid() {
        FireFromFire x = Due.village(2, 5, 0b11);
        x.keeper(0, 5, 7, 0);
        x.keeper(1, 6, 0, 0);
        DUE.is("whatever they are", x.law(99), 0);
        DUE.is("kind stays", x.of(0, 2), 5);
        DUE.is("v stays", x.of(0, 3), 7);
        FireFromFire y = Due.village(2, 9, 0b01, "burn 1 i=0&h>0;burn 9 i=0&h=9;horn 9 w<3");
        y.way(0, 1, 4);
        DUE.is("they send", y.law(99), 0);
        FireFromFire z = Due.village(1, 5, 1, "burn 6 k=4");
        z.keeper(0, 1, 0, 0);
        DUE.is("of kind 4 in the land", z.law(1), NO_WAY);
    }

    // terms 3: LAW: "WEATHER staying, no MISHAPS"
    static void promise23WeatherStays() {
        FireFromFire x = Due.village(1, 5, 1, "burn 6 w=1;out 99 w<3;next 0 1 10");
        DUE.is("dry", x.law(99), 0);
        x.go(1, 0);
        x.light(0, true);
        DUE.is("rain", x.law(1), NO_WAY);
    }

    // terms 3: "FREED: HOUSES whose KEEPER lets its fire out .., though it is ALIGHT", "as bits"
    static void promise24Freed() {
        DUE.is("no house", new FireFromFire().freed(), 0);
        for (int bits = 0; bits < 64; bits++) {
            FireFromFire x = Due.village(6, 5, 63);
            for (int h = 0; h < 6; h++) {
                x.keeper(h, 4, (bits >> h & 1) != 0 ? 6 : 5, 0);
            }
            DUE.is("those with too little wood", x.freed(), bits);
            x.light(bits % 6, false);
            DUE.is("one isn't alight", x.freed(), bits & ~(1 << bits % 6));
        }
    }

    // terms 3: FREED "(with the WEATHER as it is)", by its KEEPER alone
    static void promise24WeatherAsItIs() {
        FireFromFire x = Due.village(2, 5, 0b11, "need 3 w=2;burn 99 i=1");
        x.keeper(0, 3, 3, 0);
        DUE.is("dry; one that will be out for want of wood isn't freed", x.freed(), 0b01);
        x.go(2, 0);
        x.light(0, true);
        x.light(1, true);
        DUE.is("storm", x.freed(), 0);
        x.go(1, 0);
        x.light(0, true);
        DUE.is("rain", x.freed(), 0b01);
    }
}
