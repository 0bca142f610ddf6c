import java.nio.charset.StandardCharsets;

/** What the project's tests share: a count of wrong answers, and short ways to set things up. */
final class Due {
    private final String name;
    private int asked = 0;
    private int wrong = 0;

    Due(String name) {
        this.name = name;
    }

    void is(String what, long got, long want) {
        asked++;
        if (got != want) {
            wrong++;
            System.out.println(name + ": " + what + " answered " + got + ", due is " + want);
        }
    }

    /** Tells how it went; ends the program with exit code 1 if anything was wrong. */
    void end() {
        System.out.println(name + ": " + asked + " answers asked, " + wrong + " wrong");
        if (wrong != 0) {
            System.exit(1);
        }
    }

    static void feed(FireFromFire x, String text) {
        for (byte b : text.getBytes(StandardCharsets.ISO_8859_1)) {
            x.feed(b, 1);
        }
    }

    static int land(FireFromFire x, String text) {
        feed(x, text);
        return x.land();
    }

    /** A new object with houses of so much wood each, alight or not by bits. */
    static FireFromFire village(int houses, int wood, int alight) {
        FireFromFire x = new FireFromFire();
        for (int h = 0; h < houses; h++) {
            x.house(wood, (alight >> h & 1) != 0);
        }
        return x;
    }

    static int lit(FireFromFire x) {
        int bits = 0;
        for (int h = 0; h < x.count(0); h++) {
            bits |= x.of(h, 1) << h;
        }
        return bits;
    }
}
