import java.io.ByteArrayOutputStream;
import java.io.IOException;
import java.io.PrintStream;
import java.nio.charset.StandardCharsets;
import java.nio.file.Files;
import java.nio.file.Path;
import java.util.ArrayList;
import java.util.List;
import java.util.Map;
import java.util.Set;
import java.util.TreeMap;
import java.util.TreeSet;
import java.util.regex.Matcher;
import java.util.regex.Pattern;
import java.util.stream.Stream;
import javax.tools.ToolProvider;

/** What README.md says is so when tried: its programs, its tables of calls and refusals, its tests. */
public final class ReadmeTest {
    private static final Due DUE = new Due("ReadmeTest");
    private static final String README = read("README.md"), DOC = read("../shared/DOC.md");
    private static final Pattern PROGRAM = Pattern.compile(
            "```java\n(.*?public final class (\\w+).*?)```\n\nIt prints:\n\n```text\n(.*?)```", Pattern.DOTALL);
    private static final Pattern ROW = Pattern.compile(
            "(?m)^\\| `((?:int|long) (\\w+)\\([^)]*\\))` \\|(.*)\\|([^|]*)\\|([^|]*)\\|$");
    private static final Pattern FACE = Pattern.compile("(?m)^    public ((?:int|long) \\w+\\(.*\\));$");
    /** The numbers that refusals have, by the names that the page has for them. */
    private static final Map<String, Long> NUMBERS = Map.of("NONE", -1L, "BAD", -2L, "STATE", -3L,
            "FULL", -4L, "NO", Long.MIN_VALUE, "NOTHING", -11L, "CAST", -12L, "PLACE", -13L, "SIZE", -14L);

    private static final Map<String, Set<String>> TRIED = new TreeMap<>();

    public static void main(String[] args) {
        DUE.runAll(ReadmeTest.class);
    }

    private static String read(String file) {
        try {
            return Files.readString(Path.of(file));
        } catch (IOException e) {
            throw new IllegalStateException(e);
        }
    }

    private static void same(String what, Object is, Object due) {
        if (!is.equals(due)) {
            System.out.println(what + ":\n" + is + "\ndue:\n" + due);
        }
        DUE.is(what, is.equals(due) ? 1 : 0, 1);
    }

    static void programsPrintWhatItSays() throws Exception {
        Matcher programs = PROGRAM.matcher(README);
        int found = 0;
        while (programs.find()) {
            found++;
            same(programs.group(2), printed(programs.group(2), programs.group(1)), programs.group(3));
        }
        DUE.is("programs", found, 2);
    }

    /** Compiles a program beside the class, and runs it. */
    private static String printed(String name, String program) throws Exception {
        Path folder = Files.createTempDirectory("readme");
        Path file = Files.writeString(folder.resolve(name + ".java"), program);
        String classes = System.getProperty("java.class.path");
        int failed = ToolProvider.getSystemJavaCompiler().run(null, null, null, "-Xlint:all", "-Werror",
                "-cp", classes, "-d", folder.toString(), file.toString());
        DUE.is(name + " compiles", failed, 0);
        String java = Path.of(System.getProperty("java.home"), "bin", "java").toString();
        String both = folder + System.getProperty("path.separator") + classes;
        Process run = new ProcessBuilder(java, "-cp", both, name).redirectErrorStream(true).start();
        ByteArrayOutputStream out = new ByteArrayOutputStream();
        run.getInputStream().transferTo(out);
        DUE.is(name + " ends with", run.waitFor(), 0);
        for (String made : new String[] {name + ".class", name + ".java", ""}) {
            Files.deleteIfExists(folder.resolve(made));
        }
        return out.toString(StandardCharsets.UTF_8).replace(System.lineSeparator(), "\n");
    }

    static void tablesHaveEachCallAsTheDocumentHasIt() {
        List<String> is = new ArrayList<>();
        List<String> due = new ArrayList<>();
        Matcher rows = ROW.matcher(README);
        while (rows.find()) {
            is.add(rows.group(1));
        }
        Matcher face = FACE.matcher(DOC);
        while (face.find()) {
            due.add(face.group(1));
        }
        same("calls in the tables", is, due);
        DUE.is("calls", due.size(), 34);
    }

    static void namesOfRefusalsHaveTheirNumbers() {
        for (Map.Entry<String, Long> one : NUMBERS.entrySet()) {
            String number = one.getKey().equals("NO") ? "`Long.MIN_VALUE`" : "" + one.getValue();
            Matcher row = Pattern.compile("(?m)^\\| `(?:FireFromFire\\.)?" + one.getKey() + "` \\| (\\S+) \\|")
                    .matcher(README);
            DUE.is(one.getKey() + " is told", row.find() ? 1 : 0, 1);
            same(one.getKey(), row.group(1), number);
        }
        DUE.is("NONE", FireFromFire.NONE, NUMBERS.get("NONE"));
        DUE.is("BAD", FireFromFire.BAD, NUMBERS.get("BAD"));
        DUE.is("STATE", FireFromFire.STATE, NUMBERS.get("STATE"));
        DUE.is("FULL", FireFromFire.FULL, NUMBERS.get("FULL"));
        DUE.is("NO", FireFromFire.NO, NUMBERS.get("NO"));
    }

    /** The table tells of each call just those refusals that come when it is tried. */
    static void tablesTellTheRefusalsThatCome() {
        tryHousesAndLands(six());
        tryKeepersAndHours(six());
        tryWhatIsAsked(six());
        tryTheRest(six());
        Matcher rows = ROW.matcher(README);
        while (rows.find()) {
            Set<String> told = new TreeSet<>();
            Matcher names = Pattern.compile("`([^`]*)`").matcher(rows.group(5));
            while (names.find()) {
                told.add(names.group(1));
            }
            DUE.is("none of " + rows.group(2), rows.group(5).equals(" none ") ? 1 : 0, told.isEmpty() ? 1 : 0);
            same("refusals of " + rows.group(2), told, TRIED.getOrDefault(rows.group(2), Set.of()));
        }
    }

    private static void refused(String call, String name, long... answers) {
        for (long got : answers) {
            DUE.is(call, got, NUMBERS.containsKey(name) ? NUMBERS.get(name) : Long.parseLong(name));
        }
        TRIED.computeIfAbsent(call, c -> new TreeSet<>()).add(name);
    }

    private static FireFromFire six() {
        return Due.village(6, 30, 1);
    }

    private static void tryHousesAndLands(FireFromFire x) {
        refused("house", "BAD", x.house(-1, true), x.house(100, true));
        refused("house", "FULL", x.house(1, true));
        refused("of", "NONE", x.of(6, 0), x.of(0, 8));
        refused("wood", "NONE", x.wood(6, 1));
        refused("wood", "BAD", x.wood(0, 100));
        refused("light", "NONE", x.light(-1, true));
        refused("way", "NONE", x.way(0, 6, 1), x.way(-1, 0, 1));
        refused("way", "BAD", x.way(1, 1, 1), x.way(0, 1, 10));
        refused("feed", "BAD", x.feed(0, 5));
        Due.feed(x, "w".repeat(100));
        refused("feed", "FULL", x.feed(0, 1));
        DUE.is("a fault at place 0", x.land(), -10);
        DUE.is("a fault at place 4", Due.land(x, "out w"), -14);
        TRIED.put("land", new TreeSet<>(Set.of("-10 - place")));
        for (int k = 0; k < 5; k++) {
            DUE.is("land", Due.land(x, "out 1 w=1"), k);
        }
        refused("land", "FULL", x.land());
        refused("told", "NONE", x.told(6, 0, 0), x.told(0, 3, 0), x.told(0, 0, 4));
        refused("follows", "NONE", x.follows(3, 0), x.follows(0, 3));
    }

    private static void tryKeepersAndHours(FireFromFire x) {
        refused("keeper", "NONE", x.keeper(6, 0, 0, 0), x.keeper(0, 7, 0, 0));
        refused("keeper", "BAD", x.keeper(0, 0, 10, 0), x.keeper(0, 0, 0, 1 << 24));
        refused("would", "NONE", x.would(6, 0), x.would(0, 3));
        refused("go", "NONE", x.go(3, 0));
        refused("go", "BAD", x.go(0, 64));
        refused("night", "NONE", x.night(3, 0));
        refused("night", "BAD", x.night(0, 64));
        for (int k = 1; k <= 12; k++) {
            DUE.is("night", x.night(0, 0), k);
        }
        refused("night", "FULL", x.night(0, 0));
        refused("hand", "-1001", x.hand(0, 9), Due.village(1, 1, 1).hand(0, 1));
        refused("hand", "-1002", x.hand(13, 0));
        Due.go(x, 0, 9999);
        refused("go", "STATE", x.go(0, 0));
    }

    private static void tryWhatIsAsked(FireFromFire x) {
        refused("quickest", "NONE", x.quickest(6, 0), x.quickest(0, 2));
        refused("where", "BAD", x.where(-1), x.where(41));
        FireFromFire three = Due.village(3, 30, 1);
        refused("ends", "NO", x.ends(1, 0, 0), three.ends(3, 0, 0), three.ends(1, 2, 0), three.ends(1, 0, 2));
        refused("match", "-100001", x.match(6, 1));
        refused("match", "-100002", x.match(0, 0), x.match(0, 49));
        refused("asked", "NONE", x.asked(6));
        refused("asked", "STATE", x.asked(1));
        refused("law", "BAD", x.law(0), x.law(100));
    }

    private static void tryTheRest(FireFromFire x) {
        x.tape(0, 0, 3);
        x.tape(1, 4, 3);
        refused("judge", "NONE", x.judge(6, 0, 0));
        refused("judge", "BAD", x.judge(0, 0, 1));
        refused("judge", "CAST", x.judge(0, 0, 0));
        refused("undo", "STATE", x.undo());
        refused("trace", "NONE", x.trace(0));
        refused("taken", "BAD", x.taken(6, 7));
        refused("taken", "NOTHING", x.taken(6, 0));
        refused("taken", "CAST", x.taken(0, 1));
        refused("count", "BAD", x.count(8));
        refused("tape", "NONE", x.tape(6, 0, 0));
        refused("tape", "BAD", x.tape(0, 5, 0), x.tape(0, 0, 61));
        refused("tape", "SIZE", x.tape(0, 0, -1));
        refused("item", "NONE", x.item(6, 0, 0));
        refused("item", "NOTHING", x.item(2, 0, 0));
        refused("item", "PLACE", x.item(0, 3, 0));
        refused("read", "NO", x.read(6, 0), x.read(2, 0), x.read(0, 3));
        refused("shift", "NONE", x.shift(6, 0, 0, 0, 0), x.shift(0, 0, 6, 0, 0));
        refused("shift", "NOTHING", x.shift(0, 0, 2, 0, 0), x.shift(2, 0, 0, 0, 0));
        refused("shift", "CAST", x.shift(0, 0, 1, 0, 0));
        refused("shift", "PLACE", x.shift(0, 0, 0, 0, 4), x.shift(0, -1, 0, 0, 1), x.shift(0, 0, 0, 3, 1));
    }

    /** Each test is told of, and each that is told of is there. */
    static void namesItsTests() throws IOException {
        Set<String> there = new TreeSet<>();
        try (Stream<Path> files = Files.list(Path.of("src/test/java"))) {
            files.map(f -> f.getFileName().toString()).filter(f -> f.endsWith("Test.java"))
                    .forEach(f -> there.add(f.replace(".java", "")));
        }
        Set<String> told = new TreeSet<>();
        Matcher names = Pattern.compile("`(\\w+Test)`").matcher(README);
        while (names.find()) {
            told.add(names.group(1));
        }
        same("tests", told, there);
    }
}
