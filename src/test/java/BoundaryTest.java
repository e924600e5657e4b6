import java.io.IOException;
import java.nio.file.Files;
import java.nio.file.Path;
import java.util.ArrayList;
import java.util.List;
import java.util.TreeMap;

/**
 * The boundary cases of the document, sentence by sentence: each sentence of its promises and terms
 * has a run of its own, each answer is as due, and a call that is refused changes nothing.
 */
public final class BoundaryTest {
    private static int checks = 0;
    private static int wrong = 0;

    private static void is(Object want, Object got, String what) {
        checks++;
        if (!want.equals(got)) {
            wrong++;
            System.out.println(what + ": found " + got + ", due is " + want);
        }
    }

    private static void answers(Run run) {
        LanesAndLots x = new LanesAndLots();
        for (Run.Call call : run.calls) {
            String got = call.on(x);
            if (call.due != null) {
                is(call.due, got, run.place + ", " + call.text);
            } else {
                is(false, got.startsWith("throws."), run.place + ", " + call.text + " throws");
            }
        }
    }

    private static void refusals(Run run) {
        LanesAndLots x = new LanesAndLots();
        for (Run.Call call : run.calls) {
            String before = call.isRefused() ? Look.at(x) : "";
            call.on(x);
            if (call.isRefused()) is(before, Look.at(x), run.place + ", what is there behind " + call.text);
        }
    }

    private static LanesAndLots made(Run run, boolean isWithRefused) {
        LanesAndLots x = new LanesAndLots();
        for (Run.Call call : run.calls) if (isWithRefused || !call.isRefused()) call.on(x);
        return x;
    }

    /** Nor does a refused call leave a trace that only later acts would show. */
    private static void traces(Run run) {
        LanesAndLots x = made(run, true);
        LanesAndLots twin = made(run, false);
        is(Look.at(twin), Look.at(x), run.place + ", without the refused calls");
        while (twin.actCount() > 0 && x.actCount() > 0) {
            is(twin.undo(), x.undo(), run.place + ", undo()");
            is(Look.at(twin), Look.at(x), run.place + ", all undone without the refused calls");
        }
        is(after(made(run, false)), after(made(run, true)), run.place + ", later acts without the refused calls");
    }

    private static String after(LanesAndLots x) {
        StringBuilder s = new StringBuilder();
        s.append(x.wave());
        for (int order = 0; order < x.orderCount(); order++) {
            for (int k = 0; k < 3; k++) {
                try {
                    s.append(' ').append(x.giveBack(order, 1)).append(',').append(x.lotsOf(order));
                } catch (IllegalStateException e) {
                    s.append(" no");
                }
            }
        }
        return s.append(x.wave()).append(Look.at(x)).toString();
    }

    /** The texts of the document by their parts: its introduction, its sections and its promises. */
    private static TreeMap<String, List<String>> parts(String doc) {
        TreeMap<String, List<String>> parts = new TreeMap<>();
        String part = "section 0";
        for (String line : doc.substring(0, doc.indexOf("## Not promised")).split("\n")) {
            if (line.matches("\\d+\\. \\S.*")) part = "section " + line.split("\\.")[0];
            else if (line.startsWith("## Promise ")) part = "promise " + line.substring(11).split(":")[0];
            else if (line.startsWith("The constants:")) part = "constants";
            else if (!line.isEmpty()) parts.computeIfAbsent(part, p -> new ArrayList<>()).add(line);
        }
        return parts;
    }

    /** The sentences that need a run: the rows of a promise as they are, a section's text cut in sentences. */
    private static List<String> sentences(String part, List<String> lines) {
        List<String> sentences = new ArrayList<>();
        if (part.startsWith("promise ")) sentences.addAll(lines);
        if (part.startsWith("section ") && !part.equals("section 0")) {
            for (String line : lines) sentences.addAll(List.of(line.split("(?<=[.)]) (?=[A-Z(\"])")));
        }
        return sentences;
    }

    private static void covers(TreeMap<String, List<String>> parts, List<Run> runs) {
        int rows = 0;
        for (String part : parts.keySet()) {
            for (String sentence : sentences(part, parts.get(part))) {
                rows++;
                boolean isMet = false;
                for (Run run : runs) {
                    boolean isHere = sentence.contains(run.sentence) || run.sentence.contains(sentence);
                    isMet = isMet || run.part.equals(part) && isHere;
                }
                is(true, isMet, part + " has a run for: " + sentence);
            }
        }
        is(true, rows > 250, "there are more than 250 sentences");
        for (Run run : runs) {
            String text = String.join(" ", parts.getOrDefault(run.part, List.of()));
            is(true, text.contains(run.sentence), run.place + " quotes what the document has in " + run.part);
            is(true, run.calls.size() <= 512, run.place + " has at most 512 calls");
        }
    }

    public static void main(String[] args) throws IOException {
        List<Run> runs = new ArrayList<>(Run.read("src/test/boundaries-terms.txt"));
        runs.addAll(Run.read("src/test/boundaries-promises.txt"));
        covers(parts(Files.readString(Path.of("../shared/DOC.md"))), runs);
        for (Run run : runs) {
            answers(run);
            refusals(run);
            traces(run);
        }
        System.out.println("boundaries: " + runs.size() + " runs, " + checks + " checks, " + wrong + " answers are not as due");
        if (wrong != 0) System.exit(1);
    }
}
