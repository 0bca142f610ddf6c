import java.lang.management.ManagementFactory;
import java.lang.reflect.Constructor;
import java.lang.reflect.Field;
import java.lang.reflect.InvocationTargetException;
import java.lang.reflect.Method;
import java.lang.reflect.Modifier;
import java.util.Random;
import java.util.TreeSet;

/** The face of the class as it is compiled, wild calls, the room that calls take. */
public final class FormTest {
    private static final Due DUE = new Due("FormTest");
    private static final String[] FACE = {"int house(int,boolean)", "int of(int,int)",
        "int wood(int,int)", "int light(int,boolean)", "int way(int,int,int)", "int feed(int,int)",
        "int land()", "int told(int,int,int)", "int follows(int,int)",
        "int keeper(int,int,int,int)", "int would(int,int)", "int go(int,int)",
        "int night(int,int)", "int hand(int,int)", "int quickest(int,int)", "int where(int)",
        "int apart()", "long ends(int,int,int)", "int lasts()", "int match(int,int)",
        "int asked(int)", "int law(int)", "int freed()", "int judge(int,int,int)", "int image()",
        "int undo()", "int act(int,int,int)", "int trace(int)", "int taken(int,int)",
        "int count(int)", "int tape(int,int,int)", "int item(int,int,long)", "long read(int,int)",
        "int shift(int,int,int,int,int)"};

    public static void main(String[] args) throws Exception {
        face();
        wildCalls();
        room();
        DUE.end();
    }

    private static void face() {
        TreeSet<String> due = new TreeSet<>();
        TreeSet<String> is = new TreeSet<>();
        for (String method : FACE) {
            due.add("public " + method);
        }
        for (Method m : FireFromFire.class.getDeclaredMethods()) {
            StringBuilder types = new StringBuilder();
            for (Class<?> type : m.getParameterTypes()) {
                types.append(types.length() > 0 ? "," : "").append(type.getName());
            }
            if (!Modifier.isPrivate(m.getModifiers())) {
                is.add(Modifier.toString(m.getModifiers()) + " " + m.getReturnType() + " " + m.getName()
                        + "(" + types + ")");
            }
        }
        same("methods", is, due);
        due.clear();
        is.clear();
        due.add("public static final int NONE");
        due.add("public static final int BAD");
        due.add("public static final int STATE");
        due.add("public static final int FULL");
        due.add("public static final long NO");
        for (Field f : FireFromFire.class.getDeclaredFields()) {
            if (!Modifier.isPrivate(f.getModifiers())) {
                is.add(Modifier.toString(f.getModifiers()) + " " + f.getType() + " " + f.getName());
            }
        }
        same("fields", is, due);
        DUE.is("public and final", FireFromFire.class.getModifiers(), Modifier.PUBLIC | Modifier.FINAL);
        Constructor<?>[] all = FireFromFire.class.getDeclaredConstructors();
        DUE.is("constructors", all.length, 1);
        DUE.is("is public", all[0].getModifiers(), Modifier.PUBLIC);
        DUE.is("without parameters", all[0].getParameterCount(), 0);
    }

    private static void same(String what, TreeSet<String> is, TreeSet<String> due) {
        if (!is.equals(due)) {
            System.out.println(what + ": " + is + "\ndue: " + due);
        }
        DUE.is(what, is.equals(due) ? 1 : 0, 1);
    }

    /** Any numbers in any state: each call answers. */
    private static void wildCalls() throws Exception {
        Random random = new Random(7);
        Method[] methods = FireFromFire.class.getDeclaredMethods();
        java.util.Arrays.sort(methods, java.util.Comparator.comparing(Method::getName));
        for (int run = 0; run < 300; run++) {
            FireFromFire x = Due.village(run % 7, 30, run);
            Due.land(x, "burn 1 w<1;horn 9 w<3;need 5 h<9;out 5 w<3|a>2&!(m=0);next 0 1 5");
            for (int k = 0; k < 400; k++) {
                Method m = methods[random.nextInt(methods.length)];
                if (!Modifier.isPublic(m.getModifiers())) {
                    continue;
                }
                Object[] args = new Object[m.getParameterCount()];
                for (int a = 0; a < args.length; a++) {
                    args[a] = wild(random, m.getParameterTypes()[a]);
                }
                try {
                    m.invoke(x, args);
                } catch (InvocationTargetException e) {
                    e.getCause().printStackTrace(System.out);
                    DUE.is(m.getName() + java.util.Arrays.toString(args) + " threw", 1, 0);
                }
            }
        }
    }

    private static Object wild(Random random, Class<?> type) {
        long[] some = {random.nextInt(), Integer.MIN_VALUE, Integer.MAX_VALUE, -1, 0, 1, 63, 60, 59, 100};
        long n = random.nextInt(3) > 0 ? random.nextInt(7) : some[random.nextInt(some.length)];
        if (type == boolean.class) {
            return n % 2 == 0;
        }
        if (type == long.class) {
            return random.nextBoolean() ? n : n << 31;
        }
        return (int) n;
    }

    /** The dearest calls make no objects at all, so that a run of them fits its room. */
    private static void room() {
        com.sun.management.ThreadMXBean threads =
                (com.sun.management.ThreadMXBean) ManagementFactory.getThreadMXBean();
        long id = Thread.currentThread().getId();
        FireFromFire x = Due.village(3, 50, 5);
        Due.land(x, "burn 1 w<1;horn 9 w<3;need 5 h<9;out 5 w<3|a>2&!(m=0);next 0 1 5");
        x.way(0, 1, 2);
        x.keeper(1, 1, 0, 0);
        x.tape(0, 4, 5);
        for (int turn = 0; turn < 2; turn++) {
            x.night(0, 2);
            long ahead = threads.getThreadAllocatedBytes(id);
            for (int k = 0; k < 30; k++) {
                x.ends(2, 1, 0);
                x.match(1, 48);
                x.asked(0);
                x.law(99);
                x.lasts();
                x.where(5);
                x.apart();
                x.quickest(1, 1);
                x.hand(1, 8);
                x.judge(0, 0, 1);
                x.image();
                x.go(0, 0);
                x.undo();
                x.act(1, 2, 7);
                x.feed(0x6f757420, 4);
                x.land();
                x.tape(1, 3, 60);
                x.shift(1, 0, 1, 1, 50);
            }
            long made = threads.getThreadAllocatedBytes(id) - ahead;
            if (turn == 1) {
                DUE.is("bytes made by 540 calls: " + made, made < 4096 ? 1 : 0, 1);
            }
        }
    }
}
