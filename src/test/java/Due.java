import java.lang.reflect.InvocationTargetException;
import java.lang.reflect.Method;
import java.nio.charset.StandardCharsets;
import java.util.Arrays;
import java.util.Comparator;

/** What the project's tests share: a count of wrong answers, and short ways to set things up. */
final class Due {
    static final int MIN = Integer.MIN_VALUE, MAX = Integer.MAX_VALUE;
    static final int NONE = -1, BAD = -2, STATE = -3, FULL = -4, NO_WAY = -5;
    static final int NOTHING = -11, CAST = -12, PLACE = -13, SIZE = -14;
    static final long NO = Long.MIN_VALUE;

    private final String name;
    private String test = "";
    private int tests = 0;
    private int asked = 0;
    private int wrong = 0;

    /** A call with one of its numbers left open. */
    interface Call {
        long of(int n);
    }

    Due(String name) {
        this.name = name;
    }

    void is(String what, long got, long want) {
        asked++;
        if (got != want) {
            wrong++;
            System.out.println(name + test + ": " + what + " answered " + got + ", due is " + want);
        }
    }

    /** One answer is due for each of these numbers. */
    void each(String what, long want, Call call, int... numbers) {
        for (int n : numbers) {
            is(what + " with " + n, call.of(n), want);
        }
    }

    /** Runs every test of a class, which are its static methods without parameters, and ends. */
    void runAll(Class<?> tested) {
        Method[] methods = tested.getDeclaredMethods();
        Arrays.sort(methods, Comparator.comparing(Method::getName));
        for (Method m : methods) {
            if (m.getParameterCount() == 0 && !m.isSynthetic() && m.getReturnType() == void.class) {
                run(m);
            }
        }
        test = "";
        System.out.println(name + ": " + tests + " tests");
        end();
    }

    private void run(Method m) {
        test = "." + m.getName();
        tests++;
        int before = asked;
        try {
            m.setAccessible(true);
            m.invoke(null);
            is("something asked", asked > before ? 1 : 0, 1);
        } catch (InvocationTargetException e) {
            e.getCause().printStackTrace(System.out);
            is("a throw", 1, 0);
        } catch (IllegalAccessException e) {
            is("a test that can't be run", 1, 0);
        }
    }

    /** Tells how it went; ends the program with exit code 1 if anything was wrong. */
    void end() {
        System.out.println(name + ": " + asked + " answers asked, " + wrong + " wrong");
        if (wrong != 0) {
            System.exit(1);
        }
    }

    /** Four bytes a call, so that a text takes few of an object's 512. */
    static void feed(FireFromFire x, String text) {
        byte[] bytes = text.getBytes(StandardCharsets.ISO_8859_1);
        for (int k = 0; k < bytes.length; k += 4) {
            int n = Math.min(4, bytes.length - k);
            int four = 0;
            for (int j = k; j < k + n; j++) {
                four = four << 8 | bytes[j] & 255;
            }
            x.feed(four, n);
        }
    }

    static int land(FireFromFire x, String text) {
        feed(x, text);
        return x.land();
    }

    /** A new object with houses of so much wood each, alight or not by bits. */
    static FireFromFire village(int houses, int wood, int alight) {
        FireFromFire x = new FireFromFire();
        for (int h = 0; h < houses; h++) {
            x.house(wood, (alight >> h & 1) != 0);
        }
        return x;
    }

    /** A village in a land. */
    static FireFromFire village(int houses, int wood, int alight, String land) {
        FireFromFire x = village(houses, wood, alight);
        land(x, land);
        return x;
    }

    static void go(FireFromFire x, int weather, int hours) {
        for (int k = 0; k < hours; k++) {
            x.go(weather, 0);
        }
    }

    static int lit(FireFromFire x) {
        int bits = 0;
        for (int h = 0; h < x.count(0); h++) {
            bits |= x.of(h, 1) << h;
        }
        return bits;
    }

    static void fill(FireFromFire x, int tape, int sort, long... items) {
        x.tape(tape, sort, items.length);
        for (int i = 0; i < items.length; i++) {
            x.item(tape, i, items[i]);
        }
    }
}
