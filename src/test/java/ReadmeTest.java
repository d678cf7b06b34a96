import java.io.IOException;
import java.lang.reflect.Array;
import java.lang.reflect.Field;
import java.lang.reflect.Modifier;
import java.nio.file.Files;
import java.nio.file.Path;
import java.util.ArrayList;
import java.util.Arrays;
import java.util.IdentityHashMap;
import java.util.List;
import java.util.Map;
import java.util.TreeSet;
import java.util.function.Predicate;
import java.util.regex.Matcher;
import java.util.regex.Pattern;
import java.util.stream.Stream;

/** What README.md says holds as it is written: its example and its commands run, its tables are whole. */
public final class ReadmeTest {
    private static final Path SOURCES = Path.of("src").toAbsolutePath();
    private static final Path TESTS = SOURCES.resolve("test/java");
    private static String readme;

    public static void main(String[] args) throws Exception {
        readme = Files.readString(Path.of("README.md"));
        commands();
        calls();
        statusCalls();
        contracts();
        classes();
        tests();
        elements();
        Check.finish();
    }

    private static List<String> blocks(String language) {
        List<String> all = new ArrayList<>();
        Matcher matcher = Pattern.compile("(?ms)^```" + language + "\n(.*?)^```$").matcher(readme);
        while (matcher.find()) {
            all.add(matcher.group(1));
        }
        return all;
    }

    /** The cells of each row of the table under this head, without the backquotes. */
    private static List<String[]> table(String head) {
        List<String> lines = readme.lines().toList();
        List<String[]> rows = new ArrayList<>();
        for (int i = lines.indexOf(head) + 2; i > 1 && lines.get(i).startsWith("| "); i++) {
            rows.add(lines.get(i).replace("`", "").replaceAll("^\\| | \\|$", "").split(" *\\| +"));
        }
        Check.holds("there is a table under " + head, !rows.isEmpty());
        return rows;
    }

    private static String said(String pattern) {
        Matcher matcher = Pattern.compile(pattern, Pattern.DOTALL).matcher(readme);
        boolean is = matcher.find();
        Check.holds("README.md says " + pattern, is);
        return is ? matcher.group(1) : "";
    }

    private static void same(String what, Object got, Object want) {
        Check.holds(what + ": " + got + ", due is " + want, got.equals(want));
    }

    /** Runs what README.md tells to run, in a folder that has the example beside src. */
    private static void commands() throws Exception {
        same("blocks of java, sh, text", List.of(blocks("java").size(), blocks("sh").size(), blocks("text").size()),
                List.of(1, 2, 1));
        Path folder = Files.createTempDirectory("readme");
        try {
            Files.createSymbolicLink(folder.resolve("src"), SOURCES);
            Files.writeString(folder.resolve("Example.java"), blocks("java").get(0));
            same("what the example prints", run(folder, blocks("sh").get(0)), blocks("text").get(0));
            String alone = run(folder, blocks("sh").get(1));
            Check.holds("one test alone prints \"" + alone + "\"", alone.endsWith(", 0 not as due\n"));
        } finally {
            remove(folder);
        }
        Check.holds(".ci/run can be run", Files.isExecutable(Path.of(".ci/run")) && readme.contains("\n    .ci/run\n"));
    }

    private static String run(Path folder, String commands) throws Exception {
        ProcessBuilder builder = new ProcessBuilder("sh", "-e", "-c", commands);
        Process process = builder.directory(folder.toFile()).redirectErrorStream(true).start();
        process.getOutputStream().close();
        String printed = new String(process.getInputStream().readAllBytes());
        Check.same("exit code of " + commands, process.waitFor(), 0);
        return printed;
    }

    private static void remove(Path folder) throws IOException {
        try (Stream<Path> all = Files.walk(folder)) {
            for (Path path : all.sorted((a, b) -> b.compareTo(a)).toList()) {
                Files.delete(path);
            }
        }
    }

    /** Each call of the document, in its order, with its parameters and whatever it is refused by. */
    private static void calls() throws IOException {
        Document.open();
        List<String> want = new ArrayList<>();
        Pattern method = Pattern.compile("\\s*public \\w+ (\\w+)\\((.*)\\);");
        for (String line : Document.face()) {
            Matcher matcher = method.matcher(line);
            if (matcher.matches()) {
                want.add(matcher.group(1) + "(" + matcher.group(2).replaceAll("\\w+ (\\w+)", "$1") + ")");
            }
        }
        List<String[]> rows = table("| call | takes | answers |");
        same("calls", rows.stream().map(row -> row[0]).toList(), want);
        for (int i = 0; i < rows.size(); i++) {
            String promise = Document.text("Promise " + (i + 2));
            same("refusals of " + rows.get(i)[0], refusals(String.join(" ", rows.get(i))), refusals(promise));
        }
        String all = Document.text("Term I").replaceAll(".*REFUSED by:", "").replaceAll("there is none.*", "");
        String told = String.join(" ", table("| refused by | why |").stream().map(row -> row[0]).toList());
        same("refusals", refusals(told), refusals(all));
    }

    private static TreeSet<String> refusals(String text) {
        TreeSet<String> all = new TreeSet<>();
        Matcher matcher = Pattern.compile("(?<=^|[ (])-\\d\\b|\\bNONE\\b").matcher(text);
        while (matcher.find()) {
            all.add(matcher.group());
        }
        return all;
    }

    private static void statusCalls() {
        String promise = Document.text("Promise 26").replaceAll(".*latest call of (.*) was REFUSED.*", "$1");
        String told = said("change more than the tape \\((.*?)\\) are refused");
        same("calls that status() tells of", told.replaceAll("[`\\s]+", ""), promise.replace(" ", ""));
    }

    /** The clauses that README.md shows are all that there are, and can be read. */
    private static void contracts() {
        String told = said("words, numbers and `;`: (.*?)\\. They");
        String[] clauses = told.replaceAll("\\s+", " ").replace("`", "").split(", ");
        Check.same("kinds of clauses", clauses.length, 7);
        for (String clause : clauses) {
            SailCargo x = new SailCargo();
            Check.type(x, clause);
            Check.same("contract \"" + clause + "\"", x.contract(), 1);
        }
    }

    private static void classes() {
        TreeSet<String> told = new TreeSet<>();
        table("| class | what it holds |").forEach(row -> told.addAll(Arrays.asList(row[0].split(", "))));
        TreeSet<String> there = new TreeSet<>();
        for (Class<?> one : SailCargo.class.getDeclaredClasses()) {
            there.add(one.getSimpleName());
        }
        same("classes", told, there);
    }

    private static void tests() throws IOException {
        TreeSet<String> told = new TreeSet<>();
        table("| promises | test |").forEach(row -> told.add(row[1]));
        same("tests", told, names("Test.java"));
        for (String name : List.of("Document", "Line", "Plain")) {
            Check.holds("README.md tells of " + name, readme.contains("`" + name + "`"));
            Check.holds("there is " + name, Files.exists(TESTS.resolve(name + ".java")));
        }
        Check.holds("there are files that end in Edges", !names("Edges.java").isEmpty());
    }

    private static TreeSet<String> names(String ending) throws IOException {
        try (Stream<Path> files = Files.list(TESTS)) {
            Predicate<String> ends = name -> name.endsWith(ending);
            Stream<String> names = files.map(file -> file.getFileName().toString()).filter(ends);
            return new TreeSet<>(names.map(name -> name.replace(".java", "")).toList());
        }
    }

    /** "All rows are made in the constructor (some 42,000 elements ..); no call makes an object." */
    private static void elements() throws Exception {
        int told = Integer.parseInt(said("\\(some ([0-9,]+) elements").replace(",", ""));
        int there = size(new SailCargo(), new IdentityHashMap<>());
        Check.holds("some " + told + " elements, not " + there, Math.abs(told - there) <= told / 50);
        String file = Files.readString(SOURCES.resolve("main/java/SailCargo.java"));
        String constructor = file.replaceAll("(?s).*?\n    public SailCargo\\(\\) \\{\n(.*?)\n    \\}\n.*", "$1");
        String rest = file.replace(constructor, "").replaceAll("(?s)/\\*.*?\\*/", "");
        rest = rest.replaceAll("(?m)^ {8}private final \\w+\\[\\] \\w+ = new \\w+\\[.*\\];$", "");
        Check.holds("no call makes an object", !Pattern.compile("\\bnew\\b").matcher(rest).find());
    }

    private static int size(Object object, Map<Object, Object> seen) throws IllegalAccessException {
        if (object == null || seen.put(object, object) != null) {
            return 0;
        }
        if (object.getClass().isArray()) {
            return Array.getLength(object);
        }
        int sum = 0;
        for (Field field : object.getClass().getDeclaredFields()) {
            if (!Modifier.isStatic(field.getModifiers())) {
                field.setAccessible(true);
                sum += 1 + (field.getType().isPrimitive() ? 0 : size(field.get(object), seen));
            }
        }
        return sum;
    }
}
