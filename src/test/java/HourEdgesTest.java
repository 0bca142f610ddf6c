/**
 * The edges of KEEPERS, HOURS and NIGHTS: "Terms" 2, and promises 11 to 15. Each test's remark
 * quotes the sentence that it holds.
 */
public final class HourEdgesTest {
    private static final Due DUE = new Due("HourEdgesTest");
    private static final int MIN = Due.MIN, MAX = Due.MAX;
    private static final int NONE = Due.NONE, BAD = Due.BAD, STATE = Due.STATE, FULL = Due.FULL;
    private static final int HAND_NONE = -1001, HAND_BAD = -1002;
    private static final int NOTHING = 0, KEEPS = 1, LETS_OUT = 2, SENDS = 3;
    private static final int DRY = 0, RAIN = 1;
    private static final int ROW = (1 << 24) - 1;

    public static void main(String[] args) {
        DUE.runAll(HourEdgesTest.class);
    }

    /** Six houses with 5 of wood, ways between all of them, and need 4 in rain. */
    private static FireFromFire six(int alight) {
        FireFromFire x = Due.village(6, 5, alight, "need 4 w=1");
        for (int a = 0; a < 6; a++) {
            for (int b = 0; b < a; b++) {
                x.way(a, b, 2);
            }
        }
        return x;
    }

    private static void would(String what, int alight, int h, int kind, int v, int weather, int due) {
        FireFromFire x = six(alight);
        x.keeper(h, kind, v, ROW);
        DUE.is(what, x.would(h, weather), due);
    }

    // terms 2: "KEEPER: keeps it, never sends"
    static void termsKeeper() {
        would("alight", 0b111111, 5, 0, 9, RAIN, KEEPS);
        would("not alight", 0b011111, 5, 0, 0, RAIN, NOTHING);
        would("house 0", 0b111110, 0, 0, 0, RAIN, NOTHING);
    }

    // terms 2: "EACH: keeps it, sends"
    static void termsEach() {
        would("alight", 0b111111, 5, 1, 9, DRY, KEEPS);
        would("not alight", 0b011111, 5, 1, 9, DRY, SENDS);
        would("house 0", 0b111110, 0, 1, 9, DRY, SENDS);
    }

    // terms 2: "ONE: keeps it, if no HOUSE of a lesser number is ALIGHT"
    static void termsOneKeeps() {
        would("itself alone", 0b100000, 5, 2, 0, DRY, KEEPS);
        would("the one ahead of it", 0b110000, 5, 2, 0, DRY, LETS_OUT);
        would("house 0", 0b100001, 5, 2, 0, DRY, LETS_OUT);
        would("the one behind it", 0b110000, 4, 2, 0, DRY, KEEPS);
        would("the least of all", 0b111111, 0, 2, 0, DRY, KEEPS);
    }

    // terms 2: "ONE: ..; sends likewise"
    static void termsOneSends() {
        would("the one ahead of it", 0b010000, 5, 2, 0, DRY, NOTHING);
        would("house 0", 0b000001, 5, 2, 0, DRY, NOTHING);
        would("the one behind it", 0b100000, 4, 2, 0, DRY, SENDS);
        would("on both sides", 0b101000, 4, 2, 0, DRY, NOTHING);
        would("the least of all", 0b111110, 0, 2, 0, DRY, SENDS);
    }

    // terms 2: "FREE: keeps it, if NEED of it is v or more"
    static void termsFreeKeeps() {
        would("need 4 of 3", 0b100000, 5, 3, 3, RAIN, KEEPS);
        would("need 4 of 4", 0b100000, 5, 3, 4, RAIN, KEEPS);
        would("need 4 of 5", 0b100000, 5, 3, 5, RAIN, LETS_OUT);
        would("need 0 of 0", 0b100000, 5, 3, 0, DRY, KEEPS);
        would("need 0 of 1", 0b100000, 5, 3, 1, DRY, LETS_OUT);
    }

    // terms 2: "FREE: ..; sends likewise"
    static void termsFreeSends() {
        would("need 4 of 4", 0b000001, 5, 3, 4, RAIN, SENDS);
        would("need 4 of 5", 0b000001, 5, 3, 5, RAIN, NOTHING);
        would("need 0 of 0", 0b000001, 5, 3, 0, DRY, SENDS);
        would("need 0 of 1", 0b000001, 5, 3, 1, DRY, NOTHING);
    }

    // terms 2: "FREE: .. if NEED of it": not of another house
    static void termsFreeNeedOfIt() {
        FireFromFire x = Due.village(2, 5, 0b11, "need 5 i=0");
        x.keeper(0, 3, 5, 0);
        x.keeper(1, 3, 5, 0);
        DUE.is("its own", x.would(0, DRY), KEEPS);
        DUE.is("another one's", x.would(1, DRY), LETS_OUT);
    }

    // terms 2: "PAID: keeps it, if its WOOD is v or more; sends"
    static void termsPaid() {
        would("wood 5 of 4", 0b111111, 5, 4, 4, DRY, KEEPS);
        would("wood 5 of 5", 0b111111, 5, 4, 5, DRY, KEEPS);
        would("wood 5 of 6", 0b111111, 5, 4, 6, DRY, LETS_OUT);
        would("it sends whatever its wood", 0b011111, 5, 4, 9, DRY, SENDS);
        FireFromFire x = six(0b100000);
        x.wood(5, 0);
        x.keeper(5, 4, 0, 0);
        DUE.is("wood 0 of 0", x.would(5, DRY), KEEPS);
        x.keeper(5, 4, 1, 0);
        DUE.is("wood 0 of 1", x.would(5, DRY), LETS_OUT);
    }

    // terms 2: "TOLD: keeps it in HOURS (modulo 24) that its ROW (24 bits) tells"
    static void termsToldKeeps() {
        for (int hour : new int[] {0, 1, 22, 23, 24, 25, 47, 48}) {
            FireFromFire x = Due.village(2, 5, 0b11);
            Due.go(x, DRY, hour);
            for (int bit = 0; bit < 24; bit++) {
                x.keeper(1, 5, 0, 1 << bit);
                DUE.is("hour " + hour + ", told " + bit, x.would(1, DRY), hour % 24 == bit ? KEEPS : LETS_OUT);
                x.keeper(1, 5, 9, ROW - (1 << bit));
                DUE.is("hour " + hour + ", not told " + bit, x.would(1, DRY), hour % 24 == bit ? LETS_OUT : KEEPS);
            }
        }
    }

    // terms 2: "TOLD: ..; sends as ONE"
    static void termsToldSends() {
        for (int row : new int[] {0, ROW}) {
            FireFromFire x = six(0b101000);
            x.keeper(4, 5, 0, row);
            x.keeper(2, 5, 0, row);
            x.keeper(3, 5, 0, row);
            DUE.is("3 is alight ahead of 4", x.would(4, DRY), NOTHING);
            DUE.is("none ahead of 2", x.would(2, DRY), SENDS);
            DUE.is("3 by its row", x.would(3, DRY), row == 0 ? LETS_OUT : KEEPS);
        }
    }

    // terms 2: "RARE: keeps it, if fewer than v other HOUSES are ALIGHT"
    static void termsRareKeeps() {
        would("none of 0", 0b000100, 2, 6, 0, RAIN, LETS_OUT);
        would("none of 1", 0b000100, 2, 6, 1, RAIN, KEEPS);
        would("one of 1, ahead", 0b000101, 2, 6, 1, RAIN, LETS_OUT);
        would("one of 1, behind", 0b100100, 2, 6, 1, RAIN, LETS_OUT);
        would("one of 2", 0b100100, 2, 6, 2, RAIN, KEEPS);
        would("five of 5", 0b111111, 2, 6, 5, RAIN, LETS_OUT);
        would("five of 6", 0b111111, 2, 6, 6, RAIN, KEEPS);
        would("five of 9", 0b111111, 0, 6, 9, DRY, KEEPS);
    }

    // terms 2: "RARE: ..; sends as FREE"
    static void termsRareSends() {
        would("need 4 of 4", 0b111110, 0, 6, 4, RAIN, SENDS);
        would("need 4 of 5", 0b111110, 0, 6, 5, RAIN, NOTHING);
        would("need 0 of 0", 0b111110, 0, 6, 0, DRY, SENDS);
        would("need 0 of 1", 0b111110, 0, 6, 1, DRY, NOTHING);
    }

    /** House 1 of two, this far from the other one, which is alight; its keeper sends. */
    private static FireFromFire sender(int way, String land) {
        FireFromFire x = Due.village(2, 5, 1, land);
        x.way(0, 1, way);
        x.keeper(1, 1, 0, 0);
        return x;
    }

    // terms 2: "SENDS for fire (if it is not, and nobody of it is under way)"
    static void termsSendsIfNobodyIsUnderWay() {
        FireFromFire x = sender(2, "horn 9 w<3");
        DUE.is("nobody yet", x.would(1, DRY), SENDS);
        x.go(DRY, 0);
        DUE.is("one goes", x.would(1, DRY), NOTHING);
        x.go(DRY, 0);
        DUE.is("one brings", x.would(1, DRY), NOTHING);
        Due.go(x, DRY, 2);
        DUE.is("it is alight", x.would(1, DRY), KEEPS);
        x.light(1, false);
        DUE.is("nobody again", x.would(1, DRY), SENDS);
        x.light(1, true);
        DUE.is("alight", x.would(1, DRY), KEEPS);
    }

    // terms 2: "has less WOOD than BURN": as much is enough; "else its WOOD is less by BURN"
    static void termsWoodLessThanBurn() {
        int[][] rows = {{5, 5, 1, 0}, {4, 5, 0, 4}, {6, 5, 1, 1}, {0, 0, 1, 0}, {0, 1, 0, 0}, {99, 99, 1, 0},
            {98, 99, 0, 98}, {99, 0, 1, 99}};
        for (int[] row : rows) {
            FireFromFire x = Due.village(1, row[0], 1, "burn " + row[1] + " w<3");
            DUE.is("wood " + row[0] + ", burn " + row[1], x.go(DRY, 0), row[2]);
            DUE.is("wood then", x.of(0, 0), row[3]);
        }
    }

    // terms 2: "One that is ALIGHT is out then, if it doesn't KEEP it": and burns nothing
    static void termsOutIfItDoesNotKeepIt() {
        FireFromFire x = Due.village(2, 5, 0b11, "burn 2 w<3");
        x.keeper(0, 4, 5, 0);
        x.keeper(1, 4, 6, 0);
        DUE.is("go", x.go(DRY, 0), 0b01);
        DUE.is("one that keeps it", x.of(0, 0), 3);
        DUE.is("one that doesn't", x.of(1, 0), 5);
    }

    // terms 2: "or is among the MISHAPS": and burns nothing; one that isn't alight stays so
    static void termsOutByMishaps() {
        FireFromFire x = Due.village(6, 5, 0b101011, "burn 2 w<3");
        DUE.is("go", x.go(DRY, 0b110001), 0b001010);
        int[] woods = {5, 3, 5, 3, 5, 5};
        for (int h = 0; h < 6; h++) {
            DUE.is("wood of " + h, x.of(h, 0), woods[h]);
        }
        DUE.is("all", x.go(DRY, 0b111111), 0);
    }

    // terms 2: "the HOUSE that was ALIGHT with the fewest hours of a WAY from it"
    static void termsSendsTheFewestHours() {
        FireFromFire x = Due.village(6, 5, 0b011110);
        x.keeper(5, 1, 0, 0);
        x.way(5, 0, 1);
        x.way(5, 1, 9);
        x.way(5, 2, 8);
        x.way(5, 4, 7);
        x.go(DRY, 0);
        DUE.is("to the nearest of those alight", x.of(5, 6), 4);
        DUE.is("for as many hours, less one", x.of(5, 5), 6);
    }

    // terms 2: "(of several the least ..)"
    static void termsSendsOfSeveralTheLeast() {
        FireFromFire x = Due.village(6, 5, 0b011110);
        x.keeper(5, 1, 0, 0);
        x.way(5, 0, 3);
        x.way(5, 4, 3);
        x.way(5, 3, 3);
        x.way(5, 2, 4);
        x.go(DRY, 0);
        DUE.is("the least of 3 and 4", x.of(5, 6), 3);
    }

    // terms 2: "none: it sends nobody"
    static void termsSendsNobody() {
        FireFromFire x = Due.village(3, 5, 0b001);
        x.keeper(2, 1, 0, 0);
        x.way(1, 2, 3);
        x.way(0, 1, 3);
        x.go(DRY, 0);
        DUE.is("no way to one alight", x.of(2, 4), 0);
        FireFromFire y = sender(3, "horn 9 w<3");
        y.light(0, false);
        y.go(DRY, 0);
        DUE.is("none alight", y.of(1, 4), 0);
        FireFromFire z = sender(3, "horn 9 w<3");
        z.go(DRY, 1);
        DUE.is("that was alight as the hour began", z.of(1, 4), 1);
    }

    // terms 2: "each one under way (also one that just set out) is an hour nearer"
    static void termsAnHourNearer() {
        for (int way = 2; way <= 9; way++) {
            FireFromFire x = sender(way, "horn 9 w<3");
            x.go(DRY, 0);
            DUE.is("just set out for " + way, x.of(1, 5), way - 1);
            x.go(DRY, 0);
            DUE.is("an hour later", x.of(1, 4) == 1 ? x.of(1, 5) : 0, way - 2);
        }
    }

    // terms 2: "(One goes, or brings, in one HOUR, not both.)", "its horn 0 old"
    static void termsGoesOrBrings() {
        FireFromFire x = sender(1, "horn 9 w<3");
        DUE.is("a way of 1", x.go(DRY, 0), 1);
        DUE.is("brings", x.of(1, 4), 2);
        DUE.is("for 1 hour", x.of(1, 5), 1);
        DUE.is("horn", x.of(1, 7), 0);
        DUE.is("back in the next", x.go(DRY, 0), 3);
        FireFromFire y = sender(1, "need 1 w<3");
        y.go(DRY, 0);
        DUE.is("a horn that holds 0 is not looked at as one goes", y.of(1, 4), 2);
    }

    // terms 2: "its horn 0 old": also the second one that is brought, whatever became of the first
    static void termsHornAnew() {
        FireFromFire x = sender(2, "horn 3 w<2");
        Due.go(x, DRY, 4);
        DUE.is("brought", Due.lit(x), 0b11);
        x.light(1, false);
        Due.go(x, DRY, 2);
        DUE.is("brings again", x.of(1, 4), 2);
        DUE.is("a new horn", x.of(1, 7), 0);
        x.go(DRY, 0);
        x.go(2, 0);
        DUE.is("too old in a storm", x.of(1, 4), 0);
        Due.go(x, DRY, 2);
        DUE.is("brings a third time", x.of(1, 4), 2);
        DUE.is("a new horn", x.of(1, 7), 0);
        x.go(DRY, 0);
        DUE.is("brought", x.go(DRY, 0), 0b11);
    }

    // terms 2: "by how all was as it began": who keeps, who sends, and from where
    static void termsByHowAllWasAsItBegan() {
        FireFromFire one = Due.village(2, 5, 0b11);
        one.keeper(1, 2, 0, 0);
        DUE.is("ONE lets it out in the hour in which the other one goes out", one.go(DRY, 0b01), 0);
        FireFromFire rare = Due.village(3, 5, 0b111);
        rare.keeper(2, 6, 2, 0);
        DUE.is("RARE lets it out, too", rare.go(DRY, 0b011), 0);
        FireFromFire free = Due.village(2, 5, 0b11, "need 3 a=2;need 1 a=1");
        free.keeper(1, 3, 3, 0);
        DUE.is("FREE keeps it by the need of two alight", free.go(DRY, 0b01), 0b10);
        DUE.is("and lets it out an hour later", free.go(DRY, 0), 0);
        FireFromFire paid = Due.village(1, 5, 1, "burn 1 w<3");
        paid.keeper(0, 4, 5, 0);
        DUE.is("PAID keeps it by the wood that was", paid.go(DRY, 0), 1);
        DUE.is("and lets it out an hour later", paid.go(DRY, 0), 0);
        FireFromFire each = sender(3, "horn 9 w<3");
        each.light(1, true);
        DUE.is("EACH goes out", each.go(DRY, 0b10), 0b01);
        DUE.is("and did not send, for it was alight", each.of(1, 4), 0);
        each.go(DRY, 0);
        DUE.is("but sends an hour later", each.of(1, 4), 1);
    }

    // terms 2: "if that HOUSE is ALIGHT now": when one comes there, not as one set out
    static void termsAlightWhenItComes() {
        FireFromFire x = sender(2, "horn 9 w<3");
        x.go(DRY, 0);
        x.light(0, false);
        x.go(DRY, 0);
        DUE.is("it is out", x.of(1, 4), 0);
        FireFromFire y = sender(3, "horn 9 w<3");
        y.go(DRY, 0);
        y.light(0, false);
        y.go(DRY, 0);
        y.light(0, true);
        y.go(DRY, 0);
        DUE.is("it is alight again", y.of(1, 4), 2);
        FireFromFire z = sender(1, "horn 9 w<3");
        z.go(DRY, 1);
        DUE.is("out in the hour in which one comes", z.of(1, 4), 0);
    }

    // terms 2: "by numbers": a fire that is brought to a lesser number is seen, to a greater one not
    static void termsAlightByNumbers() {
        FireFromFire x = Due.village(3, 5, 0b001, "horn 9 w<3");
        x.way(0, 1, 1);
        x.way(1, 2, 1);
        x.keeper(1, 1, 0, 0);
        x.go(DRY, 0);
        x.light(1, true);
        x.keeper(2, 1, 0, 0);
        DUE.is("1 is out and alight again", x.go(DRY, 0b010), 0b011);
        DUE.is("2 sees it", x.of(2, 4), 2);
        FireFromFire y = Due.village(3, 5, 0b100, "horn 9 w<3");
        y.way(1, 2, 1);
        y.way(0, 1, 1);
        y.keeper(1, 1, 0, 0);
        y.go(DRY, 0);
        y.light(1, true);
        y.keeper(0, 1, 0, 0);
        DUE.is("1 is out and alight again", y.go(DRY, 0b010), 0b110);
        DUE.is("0 doesn't see it", y.of(0, 4), 0);
    }

    // terms 2: "for as many hours as the WAY is now (1, if it is gone)"
    static void termsWayBack() {
        int[] nows = {0, 1, 2, 9};
        int[] dues = {1, 1, 2, 9};
        for (int k = 0; k < nows.length; k++) {
            FireFromFire x = sender(4, "horn 9 w<3");
            Due.go(x, DRY, 3);
            x.way(0, 1, nows[k]);
            x.go(DRY, 0);
            DUE.is("brings, way " + nows[k], x.of(1, 4), 2);
            DUE.is("hours back, way " + nows[k], x.of(1, 5), dues[k]);
            x.way(0, 1, 5);
            DUE.is("a later way changes nothing", x.of(1, 5), dues[k]);
        }
        FireFromFire x = sender(4, "horn 9 w<3");
        x.go(DRY, 0);
        x.way(0, 1, 9);
        DUE.is("nor while one goes", x.of(1, 5), 3);
    }

    // terms 2: "if that is more than HORN .., it is under way no more": as old as HORN is well
    static void termsHornHolds() {
        for (int way : new int[] {1, 2, 9}) {
            FireFromFire x = sender(way, "horn " + way + " w<3");
            Due.go(x, DRY, 2 * way - 1);
            DUE.is("not yet, way " + way, Due.lit(x), 1);
            DUE.is("brought as old as horn, way " + way, x.go(DRY, 0), 3);
            FireFromFire y = sender(way, "horn " + (way - 1) + " w<3");
            Due.go(y, DRY, 2 * way - 1);
            DUE.is("still brings, way " + way, y.of(1, 4), 2);
            DUE.is("too old in the last hour, way " + way, y.go(DRY, 0), 1);
            DUE.is("under way no more", y.of(1, 4), 0);
        }
    }

    // terms 2: "its HOUSE is ALIGHT, and it is under way no more": behind all that was burnt and out
    static void termsBroughtBehindAllHouses() {
        FireFromFire x = sender(1, "horn 9 w<3;burn 2 w<3");
        x.go(DRY, 0);
        DUE.is("a mishap of a house that isn't alight yet", x.go(DRY, 0b10), 0b11);
        DUE.is("what is brought burns nothing in that hour", x.of(1, 0), 5);
        x.go(DRY, 0);
        DUE.is("but in the next", x.of(1, 0), 3);
        FireFromFire y = sender(1, "horn 9 w<3");
        y.go(DRY, 0);
        y.light(1, true);
        DUE.is("brought to one that is alight", y.go(DRY, 0), 0b11);
        DUE.is("under way no more", y.of(1, 4), 0);
        FireFromFire z = sender(1, "horn 9 w<3");
        z.go(DRY, 0);
        z.light(1, true);
        DUE.is("brought to one that goes out in that hour", z.go(DRY, 0b10), 0b11);
    }

    // terms 2: "HORN of its own HOUSE in this HOUR"
    static void termsHornOfItsOwnHouseInThisHour() {
        FireFromFire x = sender(2, "horn 9 i=1");
        DUE.is("its own", goneThrough(x, DRY, DRY), 3);
        FireFromFire y = sender(2, "horn 9 i=0");
        DUE.is("another one's", goneThrough(y, DRY, DRY), 1);
        FireFromFire z = sender(2, "horn 2 w=1;horn 1 w=0");
        DUE.is("by the weather of the hour: rain", goneThrough(z, DRY, RAIN), 3);
        FireFromFire w = sender(2, "horn 2 w=1;horn 1 w=0");
        DUE.is("by the weather of the hour: dry", goneThrough(w, RAIN, DRY), 1);
        FireFromFire h = sender(2, "horn 1 h=2;horn 2 h=3");
        DUE.is("by the hour", goneThrough(h, DRY, DRY), 3);
    }

    /** Which are alight behind 4 hours: one goes for two, brings for two with these weathers. */
    private static int goneThrough(FireFromFire x, int third, int fourth) {
        Due.go(x, DRY, 2);
        x.go(third, 0);
        return x.go(fourth, 0);
    }

    // terms 2: "The WEATHER is that of the HOUR; HOUR is one more"
    static void termsWeatherAndHour() {
        FireFromFire x = Due.village(1, 5, 1, "burn 1 w=2&h=0;burn 2 w=1&h=1");
        x.go(2, 0);
        DUE.is("weather", x.count(5), 2);
        DUE.is("hour", x.count(4), 1);
        DUE.is("wood by its weather and hour", x.of(0, 0), 4);
        x.go(1, 0);
        DUE.is("weather", x.count(5), 1);
        DUE.is("hour", x.count(4), 2);
        DUE.is("wood", x.of(0, 0), 2);
        x.go(0, 0);
        DUE.is("weather", x.count(5), 0);
    }

    // promise 11: "one of a KIND": 0 .. 6; "the KIND that it was"
    static void promise11Kinds() {
        FireFromFire x = Due.village(6, 5, 1);
        DUE.is("from 0", x.keeper(5, 6, 0, 0), 0);
        DUE.is("from 6", x.keeper(5, 0, 0, 0), 6);
        for (int k = 0; k <= 6; k++) {
            DUE.is("to " + k, x.keeper(5, k, 0, 0), Math.max(0, k - 1));
            DUE.is("kind", x.of(5, 2), k);
        }
        DUE.is("of another one", x.of(4, 2), 0);
    }

    // promise 11: "NONE", for the house
    static void promise11NoneHouse() {
        FireFromFire x = Due.village(2, 5, 1);
        DUE.is("keeper(1, 1, 0, 0)", x.keeper(1, 1, 0, 0), 0);
        DUE.each("keeper(n, 1, 0, 0)", NONE, n -> x.keeper(n, 1, 0, 0), -1, 2, 6, MIN, MAX);
        FireFromFire six = Due.village(6, 5, 1);
        DUE.is("keeper(5, 1, 0, 0)", six.keeper(5, 1, 0, 0), 0);
        DUE.each("keeper(n, 1, 0, 0)", NONE, n -> six.keeper(n, 1, 0, 0), -1, 6);
    }

    // promise 11: "NONE", for the kind
    static void promise11NoneKind() {
        FireFromFire x = Due.village(2, 5, 1);
        DUE.each("keeper(1, n, 0, 0)", NONE, n -> x.keeper(1, n, 0, 0), -1, 7, MIN, MAX);
        DUE.is("keeper(1, 6, 0, 0)", x.keeper(1, 6, 0, 0), 0);
        DUE.is("keeper(1, 0, 0, 0)", x.keeper(1, 0, 0, 0), 6);
    }

    // promise 11: "BAD: v"; terms 2: "with a number v (0 .. 9 ..)"
    static void promise11BadV() {
        FireFromFire x = Due.village(2, 5, 1);
        DUE.is("v 9", x.keeper(1, 1, 9, 0), 0);
        DUE.is("is", x.of(1, 3), 9);
        DUE.is("v 0", x.keeper(1, 2, 0, 0), 1);
        DUE.is("is", x.of(1, 3), 0);
        DUE.each("keeper(1, 3, n, 0)", BAD, n -> x.keeper(1, 3, n, 0), -1, 10, MIN, MAX);
        DUE.is("kind stays", x.of(1, 2), 2);
        DUE.is("v stays", x.of(1, 3), 0);
    }

    // promise 11: "BAD: .. hours (24 bits)"
    static void promise11BadHours() {
        FireFromFire x = Due.village(2, 5, 1);
        DUE.is("none", x.keeper(0, 5, 0, 0), 0);
        DUE.is("lets it out", x.would(0, DRY), LETS_OUT);
        DUE.is("all", x.keeper(0, 5, 0, ROW), 5);
        DUE.is("keeps it", x.would(0, DRY), KEEPS);
        DUE.each("keeper(0, 0, 1, n)", BAD, n -> x.keeper(0, 0, 1, n), -1, ROW + 1, MIN, MAX, 1 << 30);
        DUE.is("kind stays", x.of(0, 2), 5);
        DUE.is("v stays", x.of(0, 3), 0);
        DUE.is("its row stays", x.would(0, DRY), KEEPS);
    }

    // promise 11: "NONE; BAD: v, hours": the first that its words name
    static void promise11NoneAheadOfBad() {
        FireFromFire x = Due.village(2, 5, 1);
        DUE.is("house ahead of v", x.keeper(2, 0, 10, 0), NONE);
        DUE.is("house ahead of hours", x.keeper(-1, 0, 0, -1), NONE);
        DUE.is("kind ahead of v", x.keeper(0, 7, -1, 0), NONE);
        DUE.is("kind ahead of hours", x.keeper(0, -1, 0, ROW + 1), NONE);
        DUE.is("both are bad", x.keeper(0, 0, 10, -1), BAD);
    }

    // promise 12: "0 nothing": also of a house that would send, and has nowhere to
    static void promise12ThereIsWhereTo() {
        FireFromFire x = Due.village(3, 5, 0b001);
        x.keeper(2, 1, 0, 0);
        x.way(0, 1, 1);
        x.way(1, 2, 1);
        DUE.is("no way to one alight", x.would(2, DRY), NOTHING);
        x.way(0, 2, 9);
        DUE.is("there is where to", x.would(2, DRY), SENDS);
        x.light(0, false);
        DUE.is("none alight", x.would(2, DRY), NOTHING);
        x.light(1, true);
        DUE.is("another one", x.would(2, DRY), SENDS);
        x.way(1, 2, 0);
        DUE.is("the way is gone", x.would(2, DRY), NOTHING);
    }

    // promise 12: "1 it KEEPS its fire (by its KEEPER alone, also with less WOOD than BURN)"
    static void promise12KeepsByItsKeeperAlone() {
        FireFromFire x = Due.village(2, 4, 0b11, "burn 5 w<3;out 99 w<3");
        x.keeper(1, 4, 5, 0);
        DUE.is("with less wood than burn", x.would(0, DRY), KEEPS);
        DUE.is("lets it out", x.would(1, DRY), LETS_OUT);
        DUE.is("but both are out", x.go(DRY, 0), 0);
    }

    // promise 12: "with a WEATHER"
    static void promise12WithAWeather() {
        FireFromFire x = Due.village(2, 5, 0b01, "need 4 w=2");
        x.way(0, 1, 1);
        x.keeper(0, 3, 4, 0);
        x.keeper(1, 3, 4, 0);
        x.go(2, 0);
        DUE.is("storm", x.would(0, 2), KEEPS);
        DUE.is("rain", x.would(0, 1), LETS_OUT);
        DUE.is("dry", x.would(0, 0), LETS_OUT);
    }

    // promise 12: "NONE"
    static void promise12None() {
        FireFromFire x = Due.village(2, 5, 0b11);
        DUE.is("would(0, 0)", x.would(0, 0), KEEPS);
        DUE.is("would(1, 2)", x.would(1, 2), KEEPS);
        DUE.each("would(n, 0)", NONE, n -> x.would(n, 0), -1, 2, 6, MIN, MAX);
        DUE.each("would(0, n)", NONE, n -> x.would(0, n), -1, 3, MIN, MAX);
        FireFromFire six = Due.village(6, 5, 1 << 5);
        DUE.is("would(5, 0)", six.would(5, 0), KEEPS);
        DUE.is("would(6, 0)", six.would(6, 0), NONE);
    }

    // promise 13: "which HOUSES are ALIGHT then, as bits"
    static void promise13Bits() {
        DUE.is("no house", new FireFromFire().go(0, 0), 0);
        for (int alight = 0; alight < 64; alight++) {
            DUE.is("alight " + alight, Due.village(6, 5, alight).go(0, 0), alight);
        }
    }

    // promise 13: "NONE: weather"
    static void promise13NoneWeather() {
        FireFromFire x = Due.village(2, 5, 0b11);
        DUE.each("go(n, 0)", 0b11, n -> x.go(n, 0), 0, 1, 2);
        DUE.each("go(n, 0)", NONE, n -> x.go(n, 0), -1, 3, MIN, MAX);
        DUE.is("hour", x.count(4), 3);
        DUE.is("weather", x.count(5), 2);
    }

    // promise 13: "BAD: mishaps (bits of HOUSES that there are)"
    static void promise13BadMishaps() {
        for (int houses = 0; houses <= 6; houses++) {
            int all = (1 << houses) - 1;
            FireFromFire x = Due.village(houses, 5, all);
            DUE.each("go(0, n) of " + houses, BAD, n -> x.go(0, n), -1, all + 1, all + 2, 64, MIN, MAX);
            DUE.is("hour", x.count(4), 0);
            DUE.is("go(0, 0) of " + houses, x.go(0, 0), all);
            DUE.is("go(0, all) of " + houses, x.go(0, all), 0);
        }
        DUE.is("house 1 of one", Due.village(1, 5, 1).go(0, 2), BAD);
        DUE.is("house 1 of two", Due.village(2, 5, 3).go(0, 2), 1);
    }

    // promise 13: "NONE: weather; BAD: mishaps": the first that its words name
    static void promise13NoneAheadOfBad() {
        FireFromFire x = Due.village(2, 5, 0b11);
        DUE.is("go(3, 4)", x.go(3, 4), NONE);
        DUE.is("go(-1, -1)", x.go(-1, -1), NONE);
        DUE.is("go(2, 4)", x.go(2, 4), BAD);
    }

    // promise 13: "STATE: it is HOUR 9999". It wants more calls than the 512 behind which what is
    // answered is free: the program keeps to the sentence there, too
    static void promise13State() {
        FireFromFire x = Due.village(1, 5, 1);
        Due.go(x, DRY, 9998);
        DUE.is("hour", x.count(4), 9998);
        DUE.is("image", x.image(), 9998);
        DUE.is("into 9999", x.go(2, 0), 1);
        DUE.is("hour", x.count(4), 9999);
        DUE.each("go(n, 0)", STATE, n -> x.go(n, 0), 0, 1, 2);
        DUE.is("go(0, 1)", x.go(0, 1), STATE);
        DUE.is("hour", x.count(4), 9999);
        DUE.is("weather", x.count(5), 2);
        DUE.is("alight", x.of(0, 1), 1);
        DUE.is("NONE ahead of STATE", x.go(3, 0), NONE);
        DUE.is("BAD ahead of STATE", x.go(0, 2), BAD);
        DUE.is("back", x.undo(), 9998);
        DUE.is("into 9999 once more", x.go(1, 1), 0);
        DUE.is("and no further", x.go(1, 0), STATE);
    }

    // promise 14: "(weather -1: there are none then, 0, whatever the other is)"
    static void promise14NoneThen() {
        FireFromFire x = new FireFromFire();
        DUE.is("of none", x.night(-1, 0), 0);
        for (int mishaps : new int[] {0, 63, 64, -1, MIN, MAX}) {
            DUE.is("one", x.night(0, 0), 1);
            DUE.is("two", x.night(0, 0), 2);
            DUE.is("night(-1, " + mishaps + ")", x.night(-1, mishaps), 0);
            DUE.is("nights", x.count(2), 0);
        }
        for (int n = 1; n <= 12; n++) {
            DUE.is("night " + n, x.night(2, 0), n);
        }
        DUE.is("of twelve", x.night(-1, 0), 0);
        DUE.is("the first again", x.night(2, 0), 1);
    }

    // promise 14: "NONE: weather"
    static void promise14NoneWeather() {
        FireFromFire x = new FireFromFire();
        DUE.is("dry", x.night(0, 0), 1);
        DUE.is("storm", x.night(2, 0), 2);
        DUE.each("night(n, 0)", NONE, n -> x.night(n, 0), -2, 3, MIN, MAX);
        DUE.is("nights", x.count(2), 2);
    }

    // promise 14: "BAD: mishaps (0 .. 63 ..)"
    static void promise14BadMishaps() {
        FireFromFire x = new FireFromFire();
        DUE.is("none", x.night(0, 0), 1);
        DUE.is("all", x.night(0, 63), 2);
        DUE.each("night(0, n)", BAD, n -> x.night(0, n), -1, 64, MIN, MAX);
        DUE.is("nights", x.count(2), 2);
    }

    // promise 14: "(.. of HOUSES that are not there nothing)"
    static void promise14OfHousesNotThereNothing() {
        FireFromFire x = Due.village(2, 5, 0b11);
        DUE.is("of houses not there", x.night(0, 0b111100), 1);
        DUE.is("of one that is, too", x.night(0, 0b111110), 2);
        DUE.is("behind one", x.hand(1, 6), 0b11);
        DUE.is("behind two", x.hand(2, 6), 0b01);
        x.house(5, true);
        DUE.is("one that has come is there", x.hand(1, 6), 0b011);
    }

    // promise 14: "FULL: 12"; terms 2: "(12 at most)"
    static void promise14Full() {
        FireFromFire x = Due.village(1, 12, 1, "burn 1 w=0");
        for (int n = 1; n <= 11; n++) {
            x.night(0, 0);
        }
        DUE.is("the 12th", x.night(1, 0), 12);
        DUE.is("the 13th", x.night(0, 1), FULL);
        DUE.is("nights", x.count(2), 12);
        DUE.is("behind all", x.hand(12, 0), 1);
        DUE.is("alight behind all", x.hand(12, 6), 1);
    }

    // promise 14: "NONE: weather; BAD: mishaps; FULL: 12": the first that its words name
    static void promise14InOrder() {
        FireFromFire x = new FireFromFire();
        DUE.is("NONE ahead of BAD", x.night(3, 64), NONE);
        DUE.is("NONE ahead of BAD", x.night(-2, -1), NONE);
        for (int n = 1; n <= 12; n++) {
            x.night(0, 0);
        }
        DUE.is("NONE ahead of FULL", x.night(3, 0), NONE);
        DUE.is("BAD ahead of FULL", x.night(0, 64), BAD);
        DUE.is("FULL", x.night(0, 63), FULL);
    }

    // promise 15: "n NIGHTS (0 .. as many as there are)", "-1002: BAD"
    static void promise15BadN() {
        FireFromFire x = Due.village(1, 50, 1, "burn 1 w<3");
        DUE.is("0 of none", x.hand(0, 0), 50);
        DUE.each("hand(n, 0)", HAND_BAD, n -> x.hand(n, 0), -1, 1, MIN, MAX);
        for (int nights = 1; nights <= 12; nights++) {
            x.night(0, 0);
            int one = nights + 1;
            DUE.is("all of " + nights, x.hand(nights, 0), 50 - nights);
            DUE.is("0 of " + nights, x.hand(0, 0), 50);
            DUE.each("hand(n, 8)", HAND_BAD, n -> x.hand(n, 8), -1, one, 13);
        }
    }

    // promise 15: "what 0 .. 5 .. 8", "-1001: NONE"
    static void promise15NoneWhat() {
        FireFromFire x = Due.village(6, 50, 0b100001);
        DUE.is("hand(0, 0)", x.hand(0, 0), 50);
        DUE.is("hand(0, 5)", x.hand(0, 5), 50);
        DUE.is("hand(0, 6)", x.hand(0, 6), 0b100001);
        DUE.is("hand(0, 7)", x.hand(0, 7), 0);
        DUE.is("hand(0, 8)", x.hand(0, 8), 0);
        DUE.each("hand(0, n)", HAND_NONE, n -> x.hand(0, n), -1, 9, MIN, MAX);
    }

    // promise 15: "what 0 .. 5 WOOD of that HOUSE", "-1001: NONE": a house that there is not
    static void promise15NoneHouse() {
        for (int houses = 0; houses <= 6; houses++) {
            FireFromFire x = Due.village(houses, 50, 1);
            for (int h = 0; h <= 5; h++) {
                DUE.is("wood of " + h + " of " + houses, x.hand(0, h), h < houses ? 50 : HAND_NONE);
            }
            DUE.is("alight of " + houses, x.hand(0, 6), houses == 0 ? 0 : 1);
        }
    }

    // promise 15: "-1001: NONE; -1002: BAD": the first that its words name
    static void promise15NoneAheadOfBad() {
        FireFromFire x = Due.village(2, 50, 1);
        DUE.is("hand(1, 9)", x.hand(1, 9), HAND_NONE);
        DUE.is("hand(-1, -1)", x.hand(-1, -1), HAND_NONE);
        DUE.is("hand(1, 2)", x.hand(1, 2), HAND_NONE);
        DUE.is("hand(1, 1)", x.hand(1, 1), HAND_BAD);
    }

    // terms 2: "there was NEED without fire (NEED above 0, not ALIGHT as the HOUR began)"
    static void promise15NeedWithoutFire() {
        FireFromFire x = Due.village(3, 5, 0b001, "need 0 i=1;need 1 i=2;need 9 i=0");
        x.night(0, 0b001);
        x.night(0, 0);
        DUE.is("behind none", x.hand(0, 7), 0);
        DUE.is("need 1 and not alight; need 0; alight as it began", x.hand(1, 7), 1);
        DUE.is("and the one that is out", x.hand(2, 7), 3);
    }

    // terms 2: "WORTH: of NEEDS of HOUSES that were ALIGHT as HOURS began, together"
    static void promise15Worth() {
        FireFromFire x = Due.village(3, 5, 0b101, "need 40 i=0;need 7 i=1;need 99 i=2&w=1");
        x.night(0, 0b001);
        x.night(1, 0);
        DUE.is("behind none", x.hand(0, 8), 0);
        DUE.is("one that goes out in the hour counts", x.hand(1, 8), 40);
        DUE.is("then no more; by the weather of the hour", x.hand(2, 8), 139);
        FireFromFire most = Due.village(6, 5, 63, "need 99 w<3");
        for (int n = 1; n <= 12; n++) {
            most.night(0, 0);
        }
        DUE.is("the most", most.hand(12, 8), 12 * 6 * 99);
        FireFromFire least = Due.village(6, 5, 0, "need 99 w<3");
        for (int n = 1; n <= 12; n++) {
            least.night(0, 0);
        }
        DUE.is("hours of need without, the most", least.hand(12, 7), 72);
    }

    // terms 2: "a ROW of WEATHERS told by hand, each with MISHAPS": each its own, "the first n of them"
    static void promise15EachItsOwn() {
        FireFromFire x = Due.village(2, 50, 0b11, "burn 1 w=0;burn 2 w=1;burn 4 w=2");
        x.go(2, 0);
        x.night(1, 0);
        x.night(2, 0);
        x.night(0, 0b10);
        x.night(2, 0b01);
        int[] woods = {46, 44, 40, 39, 39};
        int[] others = {46, 44, 40, 40, 40};
        int[] alight = {0b11, 0b11, 0b11, 0b01, 0b00};
        for (int n = 0; n <= 4; n++) {
            DUE.is("wood of 0 behind " + n, x.hand(n, 0), woods[n]);
            DUE.is("wood of 1 behind " + n, x.hand(n, 1), others[n]);
            DUE.is("alight behind " + n, x.hand(n, 6), alight[n]);
        }
    }

    // terms 2: "All that follows is asked, goes on from how all is": the hour, and who is under way
    static void promise15GoesOnFromHowAllIs() {
        FireFromFire x = sender(2, "horn 9 w<3;burn 1 h=1;burn 2 h=2");
        x.go(DRY, 0);
        for (int n = 1; n <= 3; n++) {
            x.night(0, 0);
        }
        DUE.is("burnt in hour 1", x.hand(1, 0), 4);
        DUE.is("burnt in hours 1 and 2", x.hand(2, 0), 2);
        DUE.is("not yet brought", x.hand(2, 6), 0b01);
        DUE.is("brought", x.hand(3, 6), 0b11);
        x.go(DRY, 0);
        DUE.is("an hour later it is brought an hour earlier", x.hand(2, 6), 0b11);
        DUE.is("burnt in hour 2", x.hand(1, 0), 2);
    }
}
