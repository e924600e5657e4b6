import java.io.IOException;
import java.lang.reflect.InvocationTargetException;
import java.lang.reflect.Method;
import java.nio.file.Files;
import java.nio.file.Path;
import java.util.ArrayList;
import java.util.List;
import java.util.Map;
import java.util.TreeMap;
import java.util.regex.Matcher;
import java.util.regex.Pattern;

/** A run of calls on a new object, as a file of runs tells it behind a sentence of the document. */
final class Run {
    private static final Pattern CALL = Pattern.compile("(\\w+)\\(([^)]*)\\)(?: = (.+)| (throws\\.\\w+))?");

    /** The names that may stand for numbers: the document's constants, and the ends of all numbers. */
    private static final Map<String, Integer> NAMES = new TreeMap<>(Map.of("MIN", Integer.MIN_VALUE, "MAX", Integer.MAX_VALUE,
        "NONE", -1, "GOOD", 0, "HELD", 1, "RECALLED", 2, "THROUGH", 0, "BACK", 1, "LEAST", 2));

    static {
        String[] marks = {"PUT_AWAY", "GIVEN", "CAME_BACK", "COUNTED", "SCRAPPED", "MOVED"};
        for (int k = 0; k < marks.length; k++) NAMES.put(marks[k], k + 1);
    }

    final String part;
    final String sentence;
    final String place;
    final List<Call> calls = new ArrayList<>();

    private Run(String part, String sentence, String place) {
        this.part = part;
        this.sentence = sentence;
        this.place = place;
    }

    /** A call with its due answer, which is null where any answer will do. */
    static final class Call {
        final String text;
        final String due;
        private final Method method;
        private final Object[] arguments;

        private Call(String text, Method method, Object[] arguments, String due) {
            this.text = text;
            this.method = method;
            this.arguments = arguments;
            this.due = due;
        }

        String on(LanesAndLots x) {
            try {
                return String.valueOf(method.invoke(x, arguments));
            } catch (InvocationTargetException e) {
                return "throws." + e.getCause().getClass().getSimpleName();
            } catch (IllegalAccessException e) {
                throw new AssertionError(e);
            }
        }

        boolean isRefused() {
            return due != null && due.startsWith("throws.");
        }
    }

    static List<Run> read(String file) throws IOException {
        List<Run> runs = new ArrayList<>();
        String part = "";
        int number = 0;
        for (String line : Files.readAllLines(Path.of(file))) {
            number++;
            if (line.isEmpty() || line.startsWith("#")) continue;
            if (line.startsWith("> ")) {
                runs.add(new Run(part, line.substring(2).split(" -- ")[0], file + ":" + number));
            } else if (line.startsWith("section ") || line.startsWith("promise ")) {
                part = line;
            } else {
                runs.get(runs.size() - 1).add(line);
            }
        }
        return runs;
    }

    /** A line has one or more calls; with "5 x" before them all of them are made five times. */
    private void add(String line) {
        Matcher often = Pattern.compile("(\\d+) x (.*)").matcher(line);
        int times = often.matches() ? Integer.parseInt(often.group(1)) : 1;
        String[] texts = (often.matches() ? often.group(2) : line).split("; ");
        for (int k = 0; k < times; k++) {
            for (String text : texts) calls.add(call(text, k));
        }
    }

    private Call call(String text, int turn) {
        Matcher m = CALL.matcher(text);
        if (!m.matches()) throw new AssertionError(place + " has no call: " + text);
        Method method = null;
        for (Method one : LanesAndLots.class.getMethods()) if (one.getName().equals(m.group(1))) method = one;
        if (method == null) throw new AssertionError(place + " has no such call: " + text);
        String[] words = m.group(2).isEmpty() ? new String[0] : m.group(2).split(", ");
        Object[] arguments = new Object[words.length];
        for (int k = 0; k < words.length; k++) {
            boolean isFlag = words[k].equals("true") || words[k].equals("false");
            arguments[k] = isFlag ? (Object) Boolean.valueOf(words[k]) : (Object) number(words[k]);
        }
        String due = m.group(4) != null ? m.group(4) : due(m.group(3), method.getReturnType(), turn);
        return new Call(text, method, arguments, due);
    }

    private static int number(String word) {
        return NAMES.containsKey(word) ? NAMES.get(word) : Integer.parseInt(word);
    }

    private static String due(String text, Class<?> kind, int turn) {
        if (text == null || kind == boolean.class) return text;
        if (text.startsWith("fold(")) return fold(text.substring(5, text.length() - 1).split(", "));
        if (text.contains("..")) {
            int first = Integer.parseInt(text.split("\\.\\.")[0]);
            int last = Integer.parseInt(text.split("\\.\\.")[1]);
            return String.valueOf(first <= last ? first + turn : first - turn);
        }
        String[] parts = text.split("/");
        if (kind == double.class) return String.valueOf(Double.parseDouble(parts[0]) / (parts.length > 1 ? Double.parseDouble(parts[1]) : 1.0));
        if (kind == float.class) return String.valueOf(Float.parseFloat(parts[0]) / (parts.length > 1 ? Float.parseFloat(parts[1]) : 1.0f));
        return kind == long.class ? String.valueOf(Long.parseLong(text)) : String.valueOf(number(text));
    }

    /** The checksum over these numbers, with numbers of any length and cut to 64 bits at the end alone. */
    private static String fold(String[] words) {
        java.math.BigInteger c = java.math.BigInteger.valueOf(17);
        for (String word : words) {
            c = c.multiply(java.math.BigInteger.valueOf(31)).add(new java.math.BigInteger(word));
        }
        return String.valueOf(c.longValue());
    }
}
