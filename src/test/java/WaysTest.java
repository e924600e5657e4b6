import java.util.ArrayList;
import java.util.List;
import java.util.TreeSet;

/** The least way against a step by step search, many waves on the same object. */
public final class WaysTest {
    private static int wrong = 0;
    private static int checks = 0;
    private static long seed = 20241231;

    private static int from(int least, int most) {
        seed = seed * 6364136223846793005L + 1442695040888963407L;
        return least + (int) ((seed >>> 33) % (most - least + 1));
    }

    /** Puts one piece in each of the places, and gives all of them in a wave. */
    private static void pick(LanesAndLots x, List<Integer> goals) {
        for (int k = goals.size() - 1; k >= 0; k--) {
            int at = x.firstFree();
            x.comeIn(0, 1, 2556, 1);
            if (at != goals.get(k)) x.move(at, goals.get(k));
        }
        x.order(0, 0, goals.size(), 0, 0);
        x.wave();
    }

    private static void check(LanesAndLots x, int lanes, int positions, int gap, List<Integer> goals) {
        pick(x, goals);
        checks++;
        int want = Ways.least(lanes, positions, gap, goals);
        int got = x.pickLength(LanesAndLots.LEAST);
        if (x.pickCount() != goals.size() || got != want) {
            wrong++;
            System.out.println(lanes + " lanes, " + positions + " positions, gap " + gap + ", places " + goals
                + ": answered " + got + ", due is " + want);
        }
    }

    private static List<Integer> drawn(int lanes, int positions, int most) {
        TreeSet<Integer> goals = new TreeSet<>();
        int style = from(0, 3);
        for (int k = from(1, most); k > 0; k--) {
            int position = from(1, positions);
            if (style == 1) position = from(0, 1) == 0 ? 1 : positions;
            if (style == 2) position = (positions + 1) / 2;
            if (style == 3 && from(0, 2) > 0) position = positions;
            goals.add(from(0, lanes - 1) * positions + position - 1);
        }
        return new ArrayList<>(goals);
    }

    public static void main(String[] args) {
        for (int run = 0; run < 60; run++) {
            LanesAndLots x = new LanesAndLots();
            for (int k = 0; k < 10; k++) {
                int lanes = from(1, 6);
                int positions = from(1, 8);
                int gap = from(0, 1) == 0 ? 1 : from(1, 5);
                x.newHouse(lanes, positions, 1, gap);
                x.addProduct();
                int most = from(0, 2) == 0 ? 10 : 5;
                for (int wave = 0; wave < 2; wave++) check(x, lanes, positions, gap, drawn(lanes, positions, most));
            }
        }
        // Through two lanes, and then from both ends into the third.
        LanesAndLots x = new LanesAndLots();
        x.newHouse(3, 8, 1, 1);
        x.addProduct();
        check(x, 3, 8, 1, List.of(3, 4, 11, 12, 16, 23));
        // Through four lanes, along the backs between them, and from there back to a front alone.
        x.newHouse(6, 8, 1, 1);
        x.addProduct();
        check(x, 6, 8, 1, List.of(4, 10, 13, 23, 24, 31, 34, 37, 42, 45));
        System.out.println("ways: " + checks + " checks, " + wrong + " answers are not as due");
        if (wrong != 0) System.exit(1);
    }
}
