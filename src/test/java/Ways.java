import java.math.BigInteger;
import java.util.HashMap;
import java.util.List;
import java.util.Map;
import java.util.PriorityQueue;

/** The slow house's searches: ways step by step, and plans with fractions of whole numbers. */
final class Ways {
    private Ways() { }

    /** Dijkstra over the points of the house and the sets of places that were met. */
    static int least(int lanes, int positions, int gap, List<Integer> goals) {
        int high = positions + 2;
        int sets = 1 << goals.size();
        int[] far = new int[lanes * high * sets];
        java.util.Arrays.fill(far, 999999);
        PriorityQueue<long[]> queue = new PriorityQueue<>((a, b) -> Long.compare(a[0], b[0]));
        far[0] = 0;
        queue.add(new long[] {0, 0});
        while (!queue.isEmpty()) {
            long[] head = queue.poll();
            int node = (int) head[1];
            if (head[0] > far[node]) continue;
            int set = node % sets;
            int point = node / sets;
            if (point == 0 && set == sets - 1) return (int) head[0];
            int lane = point / high;
            int step = point % high;
            boolean end = step == 0 || step == high - 1;
            int[][] next = {
                {lane, step - 1, 1}, {lane, step + 1, 1},
                {end ? lane - 1 : -1, step, gap}, {end ? lane + 1 : -1, step, gap}};
            for (int[] n : next) {
                if (n[0] < 0 || n[0] >= lanes || n[1] < 0 || n[1] >= high) continue;
                int met = set;
                if (n[1] > 0 && n[1] < high - 1) {
                    int at = goals.indexOf(n[0] * positions + n[1] - 1);
                    if (at >= 0) met |= 1 << at;
                }
                int to = (n[0] * high + n[1]) * sets + met;
                int cost = (int) head[0] + n[2];
                if (cost < far[to]) {
                    far[to] = cost;
                    queue.add(new long[] {cost, to});
                }
            }
        }
        throw new AssertionError();
    }

    static final class Fraction implements Comparable<Fraction> {
        final BigInteger top, bottom;
        Fraction(BigInteger t, BigInteger b) {
            BigInteger g = t.gcd(b);
            top = t.divide(g);
            bottom = b.divide(g);
        }
        static Fraction of(long n) { return new Fraction(BigInteger.valueOf(n), BigInteger.ONE); }
        Fraction plus(Fraction o) { return new Fraction(top.multiply(o.bottom).add(o.top.multiply(bottom)), bottom.multiply(o.bottom)); }
        Fraction times(long a, long b) { return new Fraction(top.multiply(BigInteger.valueOf(a)), bottom.multiply(BigInteger.valueOf(b))); }
        @Override public int compareTo(Fraction o) { return top.multiply(o.bottom).compareTo(o.top.multiply(bottom)); }
    }

    static final class Planner {
        private final int[] wants, costs;
        private final int sum;
        private final Map<Integer, Fraction> known = new HashMap<>();
        private final Map<Integer, Fraction> stays = new HashMap<>();
        private final Map<Integer, Integer> acts = new HashMap<>();

        Planner(int[] wants, int[] costs) {
            this.wants = wants;
            this.costs = costs;
            int s = 0;
            for (int w : wants) s += w;
            sum = s;
        }

        Fraction stay(int periods, int y) {
            int key = periods * 1000 + y + 500;
            Fraction f = stays.get(key);
            if (f != null) return f;
            f = Fraction.of(0);
            for (int want = 0; want < 5; want++) {
                int left = y - want;
                Fraction paid = Fraction.of(left > 0 ? (long) left * costs[2] : (long) -left * costs[3]);
                f = f.plus(paid.plus(expected(periods - 1, left)).times(wants[want], sum));
            }
            stays.put(key, f);
            return f;
        }

        Fraction goal(int periods, int y) { return stay(periods, y).plus(Fraction.of((long) y * costs[1])); }

        Fraction expected(int periods, int level) {
            if (periods == 0) return Fraction.of(0);
            int key = periods * 1000 + level + 500;
            if (!known.containsKey(key)) {
                Fraction best = stay(periods, level);
                int act = level;
                for (int y = level + 1; y <= costs[4]; y++) {
                    Fraction f = Fraction.of(costs[0] + (long) costs[1] * (y - level)).plus(stay(periods, y));
                    if (f.compareTo(best) < 0) {
                        best = f;
                        act = y;
                    }
                }
                known.put(key, best);
                acts.put(key, act);
            }
            return known.get(key);
        }

        int best(int periods, int level) {
            expected(periods, level);
            return acts.get(periods * 1000 + level + 500);
        }
    }
}
