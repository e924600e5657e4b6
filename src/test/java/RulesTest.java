import java.io.IOException;
import java.lang.reflect.Constructor;
import java.lang.reflect.Field;
import java.lang.reflect.Method;
import java.lang.reflect.Modifier;
import java.nio.file.Files;
import java.nio.file.Path;
import java.util.ArrayList;
import java.util.Arrays;
import java.util.List;
import java.util.TreeSet;
import java.util.regex.Matcher;
import java.util.regex.Pattern;

/** The face as the document has it, and those rules of LANGUAGE.md that can be read off the file. */
public final class RulesTest {
    private static int wrong = 0;

    private static void is(Object want, Object got, String what) {
        if (!want.equals(got)) {
            wrong++;
            System.out.println(what + ": found " + got + ", due is " + want);
        }
    }

    /** The face, taken from the document's own text. */
    private static TreeSet<String> documentFace(String doc) {
        int from = doc.indexOf("public final class LanesAndLots {");
        TreeSet<String> face = new TreeSet<>();
        for (String line : doc.substring(from, doc.indexOf("```", from)).split("\n")) {
            Matcher m = Pattern.compile("public (static final )?(\\w+ )?(\\w+)\\((.*)\\)( throws (.*))?;").matcher(line.trim());
            if (m.matches()) {
                List<String> kinds = new ArrayList<>();
                for (String p : m.group(4).split(", ")) if (!p.isEmpty()) kinds.add(p.split(" ")[0]);
                String thrown = m.group(6) == null ? "" : m.group(6);
                face.add((m.group(2) == null ? "" : m.group(2)) + m.group(3) + kinds + " " + thrown);
            } else if (line.trim().startsWith("public static final int ")) {
                for (String c : line.trim().substring(24).replace(";", "").split(", ")) face.add("int " + c);
            }
        }
        return face;
    }

    private static String kinds(Class<?>[] types) {
        List<String> names = new ArrayList<>();
        for (Class<?> t : types) names.add(t.getSimpleName());
        return names.toString();
    }

    private static String thrown(Class<?>[] types) {
        String list = kinds(types);
        return list.substring(1, list.length() - 1);
    }

    private static TreeSet<String> builtFace() throws IllegalAccessException {
        TreeSet<String> face = new TreeSet<>();
        for (Constructor<?> c : LanesAndLots.class.getDeclaredConstructors()) {
            face.add("LanesAndLots" + kinds(c.getParameterTypes()) + " " + thrown(c.getExceptionTypes()));
        }
        for (Method m : LanesAndLots.class.getDeclaredMethods()) {
            if (!Modifier.isPrivate(m.getModifiers())) {
                face.add(m.getReturnType() + " " + m.getName() + kinds(m.getParameterTypes()) + " " + thrown(m.getExceptionTypes()));
            }
        }
        for (Field f : LanesAndLots.class.getDeclaredFields()) {
            if (!Modifier.isPrivate(f.getModifiers())) face.add(f.getType() + " " + f.getName() + " = " + f.get(null));
        }
        return face;
    }

    private static void forms() {
        TreeSet<String> face = new TreeSet<>();
        for (Method m : LanesAndLots.class.getDeclaredMethods()) {
            if (Modifier.isPublic(m.getModifiers())) face.add(m.getName());
        }
        List<Class<?>> classes = new ArrayList<>(Arrays.asList(LanesAndLots.class.getDeclaredClasses()));
        classes.add(LanesAndLots.class);
        is(true, classes.size() <= 12, "at most twelve classes");
        for (Class<?> c : classes) {
            int fields = 0;
            for (Field f : c.getDeclaredFields()) if (!Modifier.isStatic(f.getModifiers())) fields++;
            is(true, fields <= 20, c + " has at most twenty fields");
            for (Method m : c.getDeclaredMethods()) {
                is(true, m.getParameterCount() <= 7, m + " takes at most seven parameters");
                is(false, Modifier.isPrivate(m.getModifiers()) && face.contains(m.getName()), m + " bears the name of a public one");
                is(false, m.isSynthetic(), m + " is made by the compiler");
            }
            for (Field f : c.getDeclaredFields()) {
                if (Modifier.isStatic(f.getModifiers())) is(true, Modifier.isFinal(f.getModifiers()), f + " is final");
            }
        }
    }

    private static void words(String source) {
        for (String banned : new String[] {"\\bcatch\\b", "\\bfinally\\b", "\\bassert\\b", "synchronized", "->", "::", "\\bvar\\b",
            "Exact\\(", "System\\.(?!arraycopy)", "import (?!java\\.util\\.NoSuchElementException;)", "Random", "toString", "hashCode",
            "MAX_VALUE", "instanceof", "Thread", "^package"}) {
            is(false, Pattern.compile(banned, Pattern.MULTILINE).matcher(source).find(), "the program has " + banned);
        }
        Matcher thrown = Pattern.compile("throw ([^;]*);").matcher(source);
        while (thrown.find()) {
            is(true, thrown.group(1).matches("new (IllegalState|IllegalArgument|IndexOutOfBounds|NoSuchElement)Exception\\(\"[ -~]*\"\\)"), thrown.group());
        }
    }

    /** Some sixty lines a method: from a line that opens one to the line that closes it. */
    private static void lengths(String source) {
        String[] lines = source.split("\n");
        for (int at = 0; at < lines.length; at++) {
            Matcher head = Pattern.compile("( {4}| {8})(?! )[\\w\\[\\] ,.<>]*\\(.*[^;]").matcher(lines[at]);
            if (!head.matches()) continue;
            int end = at;
            while (end < lines.length && !lines[end].equals(head.group(1) + "}")) end++;
            is(true, end - at <= 60, "the method at the line " + (at + 1) + " is short");
        }
    }

    public static void main(String[] args) throws IOException, IllegalAccessException {
        String source = Files.readString(Path.of("src/main/java/LanesAndLots.java"));
        TreeSet<String> due = documentFace(Files.readString(Path.of("../shared/DOC.md")));
        is(63, due.size(), "members of the document's face");
        is(due, builtFace(), "the face");
        is(true, Modifier.isFinal(LanesAndLots.class.getModifiers()), "the class is final");
        forms();
        words(source);
        lengths(source);
        System.out.println("rules: " + wrong + " are broken");
        if (wrong != 0) System.exit(1);
    }
}
