import java.math.BigInteger;
import java.time.DateTimeException;
import java.time.LocalDate;
import java.time.temporal.ChronoUnit;
import java.util.ArrayDeque;
import java.util.ArrayList;
import java.util.Collections;
import java.util.Comparator;
import java.util.HashMap;
import java.util.LinkedHashMap;
import java.util.List;
import java.util.Map;
import java.util.NoSuchElementException;
import java.util.PriorityQueue;
import java.util.TreeMap;
import java.util.TreeSet;

/**
 * A second house, written from the document alone and for plainness: every piece is an entry of a
 * list, ways are searched step by step, and an act is undone by doing all earlier ones again.
 */
public final class SlowHouse {
    private static final LocalDate FIRST = LocalDate.of(2024, 1, 1);

    private static final class Place {
        int number, lane, position, distance, mark;
        /** One entry a piece: the number of its lot. */
        final ArrayDeque<Integer> pieces = new ArrayDeque<>();
    }

    private static final class Lot {
        int product, last, cost, state;
    }

    private static final class Order {
        int number, customer, product, open, due, life;
        final LinkedHashMap<Integer, Integer> given = new LinkedHashMap<>();
        int pieces() { return given.values().stream().mapToInt(Integer::intValue).sum(); }
        int wanted() { return due + life; }
    }

    private interface Act { int run(World w); }

    private static final class World {
        int lanes, positions, room, gap, today, products;
        final TreeMap<Integer, Place> places = new TreeMap<>();
        final List<Lot> lots = new ArrayList<>();
        final List<Order> orders = new ArrayList<>();
        final TreeSet<Integer> picked = new TreeSet<>();
        final int[] books = new int[6];
        final List<Integer> items = new ArrayList<>();
        int[] wants = {1, 1, 1, 1, 1};
        int[] costs = {10, 2, 1, 9, 10};

        World() { build(3, 4, 6, 2); }

        void build(int l, int p, int r, int g) {
            lanes = l; positions = p; room = r; gap = g; today = 0; products = 0;
            places.clear(); lots.clear(); orders.clear(); picked.clear();
            java.util.Arrays.fill(books, 0);
            for (int lane = 0; lane < l; lane++) {
                for (int position = 1; position <= p; position++) {
                    Place place = new Place();
                    place.number = places.size();
                    place.lane = lane;
                    place.position = position;
                    place.distance = g * lane + position;
                    places.put(place.number, place);
                }
            }
        }

        List<Place> byDistance() {
            List<Place> list = new ArrayList<>(places.values());
            list.sort(Comparator.comparingInt((Place q) -> q.distance).thenComparingInt(q -> q.number));
            return list;
        }

        int onHand(int lot) {
            int n = 0;
            for (Place q : places.values()) for (int piece : q.pieces) if (piece == lot) n++;
            return n;
        }

        int free() {
            int n = 0;
            for (Place q : places.values()) if (q.pieces.isEmpty()) n++;
            return n;
        }

        void putAway(int lot, int pieces, int mark) {
            int left = pieces;
            for (Place q : byDistance()) {
                if (left > 0 && q.pieces.isEmpty()) {
                    for (; left > 0 && q.pieces.size() < room; left--) q.pieces.add(lot);
                    q.mark = mark;
                }
            }
            if (left > 0) throw new AssertionError("no room");
        }

        int scrapAll(int lot) {
            int n = 0;
            for (Place q : places.values()) {
                if (!q.pieces.isEmpty() && q.pieces.peek() == lot) {
                    n += q.pieces.size();
                    q.pieces.clear();
                    q.mark = 5;
                }
            }
            books[3] += n;
            return n;
        }

        int nextDay() {
            today++;
            int n = 0;
            for (int lot = 0; lot < lots.size(); lot++) if (lots.get(lot).last < today) n += scrapAll(lot);
            return n;
        }

        int wave() {
            picked.clear();
            int before = books[1];
            PriorityQueue<Order> queue = new PriorityQueue<>(
                Comparator.comparingInt((Order o) -> o.due).thenComparingInt(o -> o.number));
            for (Order o : orders) if (o.open > 0) queue.add(o);
            while (!queue.isEmpty()) {
                Order o = queue.poll();
                while (o.open > 0) {
                    int lot = firstLot(o);
                    if (lot < 0) break;
                    if (!o.given.containsKey(lot) || lastKey(o.given) != lot) {
                        int had = o.given.getOrDefault(lot, 0);
                        o.given.remove(lot);
                        o.given.put(lot, had);
                    }
                    takeOne(lot);
                    o.given.put(lot, o.given.get(lot) + 1);
                    o.open--;
                    books[1]++;
                }
            }
            return books[1] - before;
        }

        private static int lastKey(LinkedHashMap<Integer, Integer> map) {
            int last = -1;
            for (int key : map.keySet()) last = key;
            return last;
        }

        private int firstLot(Order o) {
            int best = -1;
            for (int lot = 0; lot < lots.size(); lot++) {
                Lot l = lots.get(lot);
                if (l.product == o.product && l.state == 0 && l.last >= o.wanted() && onHand(lot) > 0
                    && (best < 0 || l.last < lots.get(best).last)) best = lot;
            }
            return best;
        }

        private void takeOne(int lot) {
            for (Place q : byDistance()) {
                if (!q.pieces.isEmpty() && q.pieces.peek() == lot) {
                    q.pieces.poll();
                    q.mark = 2;
                    picked.add(q.number);
                    return;
                }
            }
        }

        /** Answers the pieces scrapped, or -1 if there was no room; the world is spoilt then. */
        int giveBack(int order, int pieces) {
            Order o = orders.get(order);
            int scrapped = 0;
            int left = pieces;
            while (left > 0) {
                int lot = lastKey(o.given);
                int part = Math.min(left, o.given.get(lot));
                left -= part;
                if (part == o.given.get(lot)) o.given.remove(lot); else o.given.put(lot, o.given.get(lot) - part);
                Lot l = lots.get(lot);
                if (l.state == 2 || l.last < today) { scrapped += part; continue; }
                for (Place q : byDistance()) {
                    while (part > 0 && !q.pieces.isEmpty() && q.pieces.peek() == lot && q.pieces.size() < room) {
                        q.pieces.add(lot);
                        q.mark = 3;
                        part--;
                    }
                }
                if (part > free() * room) return -1;
                putAway(lot, part, 3);
            }
            books[2] += pieces;
            books[3] += scrapped;
            return scrapped;
        }
    }

    private World w = new World();
    private final List<Act> done = new ArrayList<>();
    private int remembered = 0;

    private World again(int acts) {
        World fresh = new World();
        for (int k = 0; k < acts; k++) done.get(k).run(fresh);
        return fresh;
    }

    private int act(Act a) {
        done.add(a);
        remembered = Math.min(8, remembered + 1);
        return a.run(w);
    }

    private static void range(int n, int least, int most) { if (n < least || n > most) throw new IllegalArgumentException(); }
    private static void state(boolean fit) { if (!fit) throw new IllegalStateException(); }
    private static void index(int n, int size) { if (n < 0 || n >= size) throw new IndexOutOfBoundsException(); }

    public int newHouse(int lanes, int positions, int room, int gap) {
        range(lanes, 1, 6); range(positions, 1, 8); range(room, 1, 20); range(gap, 1, 5);
        return act(v -> { v.build(lanes, positions, room, gap); return lanes * positions; });
    }

    public int passDays(int days) {
        range(days, 1, 400);
        state(w.today + days <= 2556);
        return act(v -> { int n = 0; for (int k = 0; k < days; k++) n += v.nextDay(); return n; });
    }

    public int today() { return w.today; }

    public int dayOf(int year, int month, int day) {
        range(year, 2024, 2030);
        try {
            return (int) ChronoUnit.DAYS.between(FIRST, LocalDate.of(year, month, day));
        } catch (DateTimeException e) {
            throw new IllegalArgumentException();
        }
    }

    public int dateOf(int day) {
        range(day, 0, 2556);
        LocalDate d = FIRST.plusDays(day);
        return d.getYear() * 10000 + d.getMonthValue() * 100 + d.getDayOfMonth();
    }

    public int addProduct() {
        state(w.products < 6);
        return act(v -> v.products++);
    }

    public int comeIn(int product, int pieces, int lastDay, int cost) {
        index(product, w.products);
        range(pieces, 1, 100); range(lastDay, w.today, 2556); range(cost, 0, 9999);
        state(w.lots.size() < 24);
        state(w.free() * w.room >= pieces);
        return act(v -> {
            Lot l = new Lot();
            l.product = product; l.last = lastDay; l.cost = cost;
            v.lots.add(l);
            v.putAway(v.lots.size() - 1, pieces, 1);
            v.books[0] += pieces;
            return v.lots.size() - 1;
        });
    }

    public boolean hold(int lot, boolean isHeld) {
        index(lot, w.lots.size());
        state(w.lots.get(lot).state != 2);
        return 1 == act(v -> { int was = v.lots.get(lot).state; v.lots.get(lot).state = isHeld ? 1 : 0; return was; });
    }

    public int recall(int lot) {
        index(lot, w.lots.size());
        state(w.lots.get(lot).state != 2);
        return act(v -> { v.lots.get(lot).state = 2; return v.scrapAll(lot); });
    }

    public int lotAt(int lot, int what) {
        index(lot, w.lots.size());
        range(what, 0, 5);
        Lot l = w.lots.get(lot);
        int out = 0;
        for (Order o : w.orders) out += o.given.getOrDefault(lot, 0);
        return new int[] {l.product, w.onHand(lot), l.last, l.cost, l.state, out}[what];
    }

    public int lotCount() { return w.lots.size(); }

    public int stock(int product) {
        index(product, w.products);
        int n = 0;
        for (Place q : w.places.values()) for (int piece : q.pieces) if (w.lots.get(piece).product == product) n++;
        return n;
    }

    public long stockCost(int product) {
        index(product, w.products);
        long n = 0;
        for (Place q : w.places.values()) for (int piece : q.pieces) if (w.lots.get(piece).product == product) n += w.lots.get(piece).cost;
        return n;
    }

    public int customersOf(int lot) {
        index(lot, w.lots.size());
        TreeSet<Integer> who = new TreeSet<>();
        for (Order o : w.orders) if (o.given.containsKey(lot)) who.add(o.customer);
        int sum = 0;
        for (int c : who) sum += (int) Math.pow(2, c);
        return sum;
    }

    public int placeCount() { return w.places.size(); }

    public int placeAt(int place, int what) {
        index(place, w.places.size());
        range(what, 0, 3);
        Place q = w.places.get(place);
        return new int[] {q.pieces.isEmpty() ? -1 : q.pieces.peek(), q.pieces.size(), q.distance, q.mark}[what];
    }

    public int firstFree() {
        for (Place q : w.byDistance()) if (q.pieces.isEmpty()) return q.number;
        throw new NoSuchElementException();
    }

    public int count(int place, int found) {
        index(place, w.places.size());
        range(found, 0, w.room);
        state(!w.places.get(place).pieces.isEmpty());
        return act(v -> {
            Place q = v.places.get(place);
            int before = q.pieces.size();
            for (; q.pieces.size() > found; v.books[4]++) q.pieces.poll();
            for (; q.pieces.size() < found; v.books[5]++) q.pieces.add(q.pieces.peek());
            q.mark = 4;
            return found - before;
        });
    }

    public int scrap(int place, int pieces) {
        index(place, w.places.size());
        range(pieces, 1, 20);
        state(w.places.get(place).pieces.size() >= pieces);
        return act(v -> {
            Place q = v.places.get(place);
            for (int k = 0; k < pieces; k++) { q.pieces.poll(); v.books[3]++; }
            q.mark = 5;
            return q.pieces.size();
        });
    }

    public int move(int place, int to) {
        index(place, w.places.size());
        index(to, w.places.size());
        if (place == to) throw new IllegalArgumentException();
        state(!w.places.get(place).pieces.isEmpty() && w.places.get(to).pieces.isEmpty());
        return act(v -> {
            Place from = v.places.get(place);
            Place onto = v.places.get(to);
            onto.pieces.addAll(from.pieces);
            from.pieces.clear();
            from.mark = 6;
            onto.mark = 6;
            return onto.pieces.size();
        });
    }

    public int order(int customer, int product, int pieces, int due, int life) {
        index(customer, 8);
        index(product, w.products);
        range(pieces, 1, 50); range(due, w.today, 2556); range(life, 0, 400);
        state(w.orders.size() < 40);
        return act(v -> {
            Order o = new Order();
            o.number = v.orders.size(); o.customer = customer; o.product = product; o.open = pieces; o.due = due; o.life = life;
            v.orders.add(o);
            return o.number;
        });
    }

    public int cancel(int order) {
        index(order, w.orders.size());
        return act(v -> { int open = v.orders.get(order).open; v.orders.get(order).open = 0; return open; });
    }

    public int giveBack(int order, int pieces) {
        index(order, w.orders.size());
        range(pieces, 1, 50);
        state(w.orders.get(order).pieces() >= pieces);
        state(again(done.size()).giveBack(order, pieces) >= 0);
        return act(v -> v.giveBack(order, pieces));
    }

    public int orderAt(int order, int what) {
        index(order, w.orders.size());
        range(what, 0, 5);
        Order o = w.orders.get(order);
        return new int[] {o.customer, o.product, o.open, o.pieces(), o.due, o.wanted()}[what];
    }

    public int lotsOf(int order) {
        index(order, w.orders.size());
        int sum = 0;
        for (int lot : w.orders.get(order).given.keySet()) sum += (int) Math.pow(2, lot);
        return sum;
    }

    public int orderCount() { return w.orders.size(); }

    public int wave() { return act(World::wave); }

    public int unfilled(int product) {
        index(product, w.products);
        World v = again(done.size());
        v.wave();
        int n = 0;
        for (Order o : v.orders) if (o.product == product) n += o.open;
        return n;
    }

    public int proofDay(int product) {
        if (unfilled(product) == 0) throw new NoSuchElementException();
        TreeMap<Integer, Integer> days = new TreeMap<>();
        for (Order o : w.orders) if (o.product == product && o.open > 0) days.put(o.wanted(), difference(product, o.wanted()));
        int greatest = Collections.max(days.values());
        for (int day : days.keySet()) if (days.get(day) == greatest) return day;
        throw new AssertionError();
    }

    public int difference(int product, int day) {
        index(product, w.products);
        range(day, 0, 3000);
        int n = 0;
        for (Order o : w.orders) if (o.product == product && o.wanted() >= day) n += o.open;
        for (Place q : w.places.values()) {
            for (int piece : q.pieces) {
                Lot l = w.lots.get(piece);
                if (l.product == product && l.state == 0 && l.last >= day) n--;
            }
        }
        return n;
    }

    public int pickCount() { return w.picked.size(); }

    public int pickLength(int rule) {
        range(rule, 0, 2);
        if (rule == 2) state(w.picked.size() <= 10);
        if (w.picked.isEmpty()) return 0;
        if (rule == 2) return Ways.least(w.lanes, w.positions, w.gap, new ArrayList<>(w.picked));
        TreeMap<Integer, Integer> greatest = new TreeMap<>();
        for (int place : w.picked) greatest.merge(w.places.get(place).lane, w.places.get(place).position, Math::max);
        int g = greatest.lastKey();
        int m = greatest.size();
        int length = 2 * w.gap * g;
        if (rule == 1) {
            for (int position : greatest.values()) length += 2 * position;
            return length;
        }
        return m % 2 == 0 ? length + m * (w.positions + 1) : length + (m - 1) * (w.positions + 1) + 2 * greatest.get(g);
    }

    public int addItem(int size) {
        range(size, 1, 20);
        state(w.items.size() < 8);
        return act(v -> { v.items.add(size); return v.items.size(); });
    }

    public int clearItems() {
        return act(v -> { int n = v.items.size(); v.items.clear(); return n; });
    }

    public int boxes(int size) {
        range(size, 1, 40);
        for (int item : w.items) if (item > size) throw new IllegalArgumentException();
        return pack(0, new ArrayList<>(), size);
    }

    private int pack(int item, List<Integer> left, int size) {
        if (item == w.items.size()) return left.size();
        int best = 99;
        for (int box = 0; box < left.size(); box++) {
            if (left.get(box) >= w.items.get(item)) {
                left.set(box, left.get(box) - w.items.get(item));
                best = Math.min(best, pack(item + 1, left, size));
                left.set(box, left.get(box) + w.items.get(item));
            }
        }
        left.add(size - w.items.get(item));
        best = Math.min(best, pack(item + 1, left, size));
        left.remove(left.size() - 1);
        return best;
    }

    public int boxBound(int size) {
        range(size, 1, 40);
        int sum = 0;
        for (int item : w.items) sum += item;
        int bound = 0;
        while (bound * size < sum) bound++;
        return bound;
    }

    public int setWants(int a, int b, int c, int d, int e) {
        int[] all = {a, b, c, d, e};
        int sum = 0;
        for (int x : all) { range(x, 0, 9); sum += x; }
        if (sum == 0) throw new IllegalArgumentException();
        int total = sum;
        return act(v -> { v.wants = all; return total; });
    }

    public int setCosts(int order, int unit, int holding, int penalty, int cap) {
        range(order, 0, 99); range(unit, 0, 20); range(holding, 0, 20); range(penalty, unit + 1, 60); range(cap, 0, 20);
        return act(v -> { int before = v.costs[4]; v.costs = new int[] {order, unit, holding, penalty, cap}; return before; });
    }

    public int lowBound(int periods) {
        range(periods, 1, 5);
        for (int level = -20; ; level++) if (bestAct(periods, level) == level) return level;
    }

    public int highBound(int periods) {
        range(periods, 1, 5);
        Ways.Planner planner = planner();
        int best = -20;
        for (int y = -20; y <= w.costs[4]; y++) {
            if (planner.goal(periods, y).compareTo(planner.goal(periods, best)) < 0) best = y;
        }
        return best;
    }

    public int bestAct(int periods, int level) {
        range(periods, 1, 5);
        range(level, -20, w.costs[4]);
        return planner().best(periods, level);
    }

    public long planCost(int periods, int level, boolean isBottom) {
        range(periods, 1, 5);
        range(level, -20, w.costs[4]);
        Ways.Fraction f = planner().expected(periods, level);
        return (isBottom ? f.bottom : f.top).longValueExact();
    }

    private final Map<String, Ways.Planner> planners = new HashMap<>();

    private Ways.Planner planner() {
        String key = java.util.Arrays.toString(w.wants) + java.util.Arrays.toString(w.costs);
        return planners.computeIfAbsent(key, k -> new Ways.Planner(w.wants.clone(), w.costs.clone()));
    }

    public int book(int what) {
        range(what, 0, 6);
        if (what < 6) return w.books[what];
        int n = 0;
        for (Place q : w.places.values()) n += q.pieces.size();
        return n;
    }

    public int undo() {
        state(remembered > 0);
        w = again(done.size() - 1);
        done.remove(done.size() - 1);
        return --remembered;
    }

    public int actCount() { return remembered; }

    public double meanLife() {
        int days = 0;
        int n = 0;
        for (Place q : w.places.values()) for (int piece : q.pieces) { days += w.lots.get(piece).last - w.today; n++; }
        return n == 0 ? 0.0 : (double) days / (double) n;
    }

    public float givenShare() {
        int had = 0;
        int all = 0;
        for (Order o : w.orders) { had += o.pieces(); all += o.pieces() + o.open; }
        return all == 0 ? 0.0f : (float) had / (float) all;
    }

    public long checksum() {
        List<Integer> row = new ArrayList<>();
        row.add(w.today);
        for (Place q : w.places.values()) { row.add(placeAt(q.number, 0)); row.add(placeAt(q.number, 1)); }
        for (Order o : w.orders) { row.add(o.open); row.add(o.pieces()); }
        BigInteger c = BigInteger.valueOf(17);
        for (int x : row) c = c.multiply(BigInteger.valueOf(31)).add(BigInteger.valueOf(x));
        return c.longValue();
    }

    public int errors() { return 0; }
}
