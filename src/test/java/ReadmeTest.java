import java.io.IOException;
import java.nio.file.Files;
import java.nio.file.Path;
import java.util.ArrayList;
import java.util.List;
import java.util.TreeSet;
import java.util.regex.Matcher;
import java.util.regex.Pattern;

/** What README.md shows of the program: its example answers as it says, and it names every call. */
public final class ReadmeTest {
    private static final Path MADE = Path.of("build/readme");
    private static final Pattern LINE = Pattern.compile("(?:(\\w+) (\\w+) = )?([^;]+); *// (= |throws )?([-\\w.]*).*");
    private static int wrong = 0;

    private static void is(Object want, Object got, String what) {
        if (!want.equals(got)) {
            wrong++;
            System.out.println(what + ": found " + got + ", due is " + want);
        }
    }

    private static String block(String readme, String kind) {
        int from = readme.indexOf("```" + kind + "\n") + kind.length() + 4;
        return readme.substring(from, readme.indexOf("```", from));
    }

    /** Each line of the example as it stands, and behind it a look at what it answered. */
    private static List<String> program(String example) {
        List<String> rows = new ArrayList<>(List.of("public final class Example {",
            "static int wrong = 0;",
            "static void is(String want, Object got, String call) {",
            "  if (!want.equals(String.valueOf(got))) { wrong++; System.out.println(call + \" answered \" + got); }",
            "}",
            "public static int tell() {"));
        for (String line : example.split("\n")) {
            Matcher m = LINE.matcher(line);
            is(true, m.matches(), "README.md says what is answered to " + line);
            if (m.matches()) rows.addAll(rows(m));
        }
        rows.addAll(List.of("return wrong;", "}", "}"));
        return rows;
    }

    private static List<String> rows(Matcher m) {
        String call = m.group(3);
        String name = "\"" + call + "\"";
        if ("throws ".equals(m.group(4))) {
            return List.of("try { " + call + "; is(\"an exception\", \"none\", " + name + "); }",
                "catch (" + m.group(5) + " e) { }");
        }
        String made = m.group(1) == null ? "" : m.group(1) + " " + m.group(2) + " = " + call + ";";
        String got = m.group(1) == null ? call : m.group(2);
        return m.group(4) == null ? List.of(made) : List.of(made, "is(\"" + m.group(5) + "\", " + got + ", " + name + ");");
    }

    private static void example(String readme) throws Exception {
        Files.createDirectories(MADE);
        Path file = MADE.resolve("Example.java");
        Files.write(file, program(block(readme, "java")));
        int code = new ProcessBuilder("javac", "-cp", System.getProperty("java.class.path"), "-d", MADE.toString(), file.toString())
            .inheritIO().start().waitFor();
        is(0, code, "the example of README.md compiles");
        if (code == 0) {
            java.net.URL[] from = {MADE.toUri().toURL()};
            try (java.net.URLClassLoader loader = new java.net.URLClassLoader(from, ReadmeTest.class.getClassLoader())) {
                is(0, loader.loadClass("Example").getMethod("tell").invoke(null), "other answers in the example of README.md");
            }
        }
    }

    private static void names(String readme) throws IOException {
        TreeSet<String> due = new TreeSet<>();
        for (java.lang.reflect.Method m : LanesAndLots.class.getDeclaredMethods()) {
            if (java.lang.reflect.Modifier.isPublic(m.getModifiers())) due.add(m.getName());
        }
        String list = readme.substring(readme.indexOf("- the house and its days"), readme.indexOf("Products, lots, places and orders"));
        TreeSet<String> told = new TreeSet<>();
        Matcher m = Pattern.compile("`(\\w+)`").matcher(list);
        while (m.find()) told.add(m.group(1));
        is(due, told, "the calls that README.md names");
        try (var files = Files.list(Path.of("src/test/java"))) {
            for (Path test : (Iterable<Path>) files::iterator) {
                String name = test.getFileName().toString();
                is(true, readme.contains(name), "README.md names " + name);
            }
        }
    }

    public static void main(String[] args) throws Exception {
        String readme = Files.readString(Path.of("README.md"));
        example(readme);
        names(readme);
        System.out.println("readme: " + wrong + " faults");
        if (wrong != 0) System.exit(1);
    }
}
