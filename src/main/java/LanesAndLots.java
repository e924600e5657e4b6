import java.util.NoSuchElementException;

/**
 * A house of lots: goods come in lots with a last day and are put away in lanes, orders are given
 * the lots that expire first, pickers go the least way, counts are booked, pieces come back, lots
 * are held and recalled, boxes are packed, stock is planned by two bounds, and acts are undone.
 */
public final class LanesAndLots {
    public static final int NONE = -1;
    public static final int GOOD = 0, HELD = 1, RECALLED = 2;
    public static final int THROUGH = 0, BACK = 1, LEAST = 2;
    public static final int PUT_AWAY = 1, GIVEN = 2, CAME_BACK = 3, COUNTED = 4, SCRAPPED = 5, MOVED = 6;

    private static final int MOST_LANES = 6;
    private static final int MOST_POSITIONS = 8;
    private static final int MOST_PLACES = 48;
    private static final int MOST_ROOM = 20;
    private static final int MOST_PRODUCTS = 6;
    private static final int MOST_LOTS = 24;
    private static final int MOST_ORDERS = 40;
    private static final int CUSTOMERS = 8;
    private static final int MOST_ITEMS = 8;
    private static final int MOST_ITEM_SETS = 256;
    private static final int MOST_ACTS = 8;
    private static final int MOST_LEAST_PLACES = 10;
    private static final int LAST_DAY = 2556;
    private static final int NO_LIMIT = 0x7fffffff;

    private static final int BOOK_IN = 0, BOOK_GIVEN = 1, BOOK_BACK = 2, BOOK_SCRAPPED = 3;
    private static final int BOOK_LOST = 4, BOOK_FOUND = 5, BOOK_ON_HAND = 6;
    private static final int BOOKS = 6;

    private static final int WANTS = 5;
    private static final int ORDER_COST = 5, UNIT_COST = 6, HOLDING_COST = 7, PENALTY = 8, CAP = 9;
    private static final int TERMS = 10;
    private static final int MOST_PERIODS = 5;
    private static final int LOWEST_LEVEL = -20;

    private final State now = new State();
    private final State[] past = new State[MOST_ACTS];
    private int acts;
    private int nextSlot;
    private final Plan plan = new Plan();
    private final Picker picker = new Picker();
    private final int[] rest = new int[MOST_LOTS];
    private final int[] packed = new int[MOST_ITEM_SETS];

    public LanesAndLots() {
        now.shelves.build(3, 4, 6, 2);
        for (int want = 0; want < WANTS; want++) {
            now.terms[want] = 1;
        }
        now.terms[ORDER_COST] = 10;
        now.terms[UNIT_COST] = 2;
        now.terms[HOLDING_COST] = 1;
        now.terms[PENALTY] = 9;
        now.terms[CAP] = 10;
    }

    // ---- the house, days

    public int newHouse(int lanes, int positions, int room, int gap) throws IllegalArgumentException {
        needRange(lanes, 1, MOST_LANES);
        needRange(positions, 1, MOST_POSITIONS);
        needRange(room, 1, MOST_ROOM);
        needRange(gap, 1, 5);
        remember();
        now.empty();
        now.shelves.build(lanes, positions, room, gap);
        return now.shelves.places;
    }

    public int passDays(int days) throws IllegalArgumentException, IllegalStateException {
        needRange(days, 1, 400);
        needState(now.today + days <= LAST_DAY);
        remember();
        now.today += days;
        // No other act lies between the days, so all that has expired can go at once.
        int scrapped = 0;
        for (int lot = 0; lot < now.lots.count; lot++) {
            if (now.lots.last[lot] < now.today) {
                scrapped += now.shelves.scrapLot(lot);
            }
        }
        now.books[BOOK_SCRAPPED] += scrapped;
        return scrapped;
    }

    public int today() {
        return now.today;
    }

    public int dayOf(int year, int month, int day) throws IllegalArgumentException {
        needRange(year, Dates.FIRST_YEAR, Dates.LAST_YEAR);
        // A month that does not exist has no days.
        needRange(day, 1, Dates.daysOfMonth(year, month));
        return Dates.numberOf(year, month, day);
    }

    public int dateOf(int day) throws IllegalArgumentException {
        needRange(day, 0, LAST_DAY);
        return Dates.dateAt(day);
    }

    // ---- products, lots

    public int addProduct() throws IllegalStateException {
        needState(now.products < MOST_PRODUCTS);
        remember();
        now.products++;
        return now.products - 1;
    }

    public int comeIn(int product, int pieces, int lastDay, int cost)
            throws IndexOutOfBoundsException, IllegalArgumentException, IllegalStateException {
        needProduct(product);
        needRange(pieces, 1, 100);
        needRange(lastDay, now.today, LAST_DAY);
        needRange(cost, 0, 9999);
        needState(now.lots.count < MOST_LOTS);
        needState(now.shelves.placesFor(pieces) <= now.shelves.freePlaces());
        remember();
        int lot = now.lots.add(product, lastDay, cost);
        now.shelves.putAway(lot, pieces, PUT_AWAY);
        now.books[BOOK_IN] += pieces;
        return lot;
    }

    public boolean hold(int lot, boolean isHeld) throws IndexOutOfBoundsException, IllegalStateException {
        needLot(lot);
        needState(now.lots.state[lot] != RECALLED);
        remember();
        boolean wasHeld = now.lots.state[lot] == HELD;
        now.lots.state[lot] = isHeld ? HELD : GOOD;
        return wasHeld;
    }

    public int recall(int lot) throws IndexOutOfBoundsException, IllegalStateException {
        needLot(lot);
        needState(now.lots.state[lot] != RECALLED);
        remember();
        now.lots.state[lot] = RECALLED;
        int scrapped = now.shelves.scrapLot(lot);
        now.books[BOOK_SCRAPPED] += scrapped;
        return scrapped;
    }

    public int lotAt(int lot, int what) throws IndexOutOfBoundsException, IllegalArgumentException {
        needLot(lot);
        needRange(what, 0, 5);
        switch (what) {
            case 0:
                return now.lots.product[lot];
            case 1:
                return now.shelves.piecesOf(lot);
            case 2:
                return now.lots.last[lot];
            case 3:
                return now.lots.cost[lot];
            case 4:
                return now.lots.state[lot];
            default:
                return now.orders.piecesOutOf(lot);
        }
    }

    public int lotCount() {
        return now.lots.count;
    }

    public int stock(int product) throws IndexOutOfBoundsException {
        needProduct(product);
        int pieces = 0;
        now.shelves.countLots(rest);
        for (int lot = 0; lot < now.lots.count; lot++) {
            if (now.lots.product[lot] == product) {
                pieces += rest[lot];
            }
        }
        return pieces;
    }

    public long stockCost(int product) throws IndexOutOfBoundsException {
        needProduct(product);
        long worth = 0;
        now.shelves.countLots(rest);
        for (int lot = 0; lot < now.lots.count; lot++) {
            if (now.lots.product[lot] == product) {
                worth += (long) now.lots.cost[lot] * rest[lot];
            }
        }
        return worth;
    }

    public int customersOf(int lot) throws IndexOutOfBoundsException {
        needLot(lot);
        int customers = 0;
        for (int order = 0; order < now.orders.count; order++) {
            if (now.orders.piecesOf(order, lot) > 0) {
                customers |= 1 << now.orders.customer[order];
            }
        }
        return customers;
    }

    // ---- places

    public int placeCount() {
        return now.shelves.places;
    }

    public int placeAt(int place, int what) throws IndexOutOfBoundsException, IllegalArgumentException {
        needPlace(place);
        needRange(what, 0, 3);
        switch (what) {
            case 0:
                return now.shelves.lot[place];
            case 1:
                return now.shelves.pieces[place];
            case 2:
                return now.shelves.distanceOf(place);
            default:
                return now.shelves.mark[place];
        }
    }

    public int firstFree() throws NoSuchElementException {
        int place = now.shelves.nearestFree();
        if (place == NONE) {
            throw new NoSuchElementException("no place is free");
        }
        return place;
    }

    public int count(int place, int found)
            throws IndexOutOfBoundsException, IllegalArgumentException, IllegalStateException {
        needPlace(place);
        needRange(found, 0, now.shelves.room);
        needState(!now.shelves.isFree(place));
        remember();
        int more = found - now.shelves.pieces[place];
        now.shelves.set(place, now.shelves.lot[place], found, COUNTED);
        if (more < 0) {
            now.books[BOOK_LOST] -= more;
        } else {
            now.books[BOOK_FOUND] += more;
        }
        return more;
    }

    public int scrap(int place, int pieces)
            throws IndexOutOfBoundsException, IllegalArgumentException, IllegalStateException {
        needPlace(place);
        needRange(pieces, 1, 20);
        needState(pieces <= now.shelves.pieces[place]);
        remember();
        int left = now.shelves.pieces[place] - pieces;
        now.shelves.set(place, now.shelves.lot[place], left, SCRAPPED);
        now.books[BOOK_SCRAPPED] += pieces;
        return left;
    }

    public int move(int place, int to)
            throws IndexOutOfBoundsException, IllegalArgumentException, IllegalStateException {
        needPlace(place);
        needPlace(to);
        if (place == to) {
            throw new IllegalArgumentException("both are the same place");
        }
        needState(!now.shelves.isFree(place));
        needState(now.shelves.isFree(to));
        remember();
        int pieces = now.shelves.pieces[place];
        now.shelves.set(to, now.shelves.lot[place], pieces, MOVED);
        now.shelves.set(place, NONE, 0, MOVED);
        return pieces;
    }

    // ---- orders

    public int order(int customer, int product, int pieces, int due, int life)
            throws IndexOutOfBoundsException, IllegalArgumentException, IllegalStateException {
        if (customer < 0 || customer >= CUSTOMERS) {
            throw new IndexOutOfBoundsException("no such customer");
        }
        needProduct(product);
        needRange(pieces, 1, 50);
        needRange(due, now.today, LAST_DAY);
        needRange(life, 0, 400);
        needState(now.orders.count < MOST_ORDERS);
        remember();
        return now.orders.add(customer, product, pieces, due, life);
    }

    public int cancel(int order) throws IndexOutOfBoundsException {
        needOrder(order);
        remember();
        int open = now.orders.open[order];
        now.orders.open[order] = 0;
        return open;
    }

    public int giveBack(int order, int pieces)
            throws IndexOutOfBoundsException, IllegalArgumentException, IllegalStateException {
        needOrder(order);
        needRange(pieces, 1, 50);
        needState(pieces <= now.orders.piecesAt(order));
        needState(placesForReturn(order, pieces) <= now.shelves.freePlaces());
        remember();
        int scrapped = takeBack(order, pieces);
        now.books[BOOK_BACK] += pieces;
        now.books[BOOK_SCRAPPED] += scrapped;
        return scrapped;
    }

    public int orderAt(int order, int what) throws IndexOutOfBoundsException, IllegalArgumentException {
        needOrder(order);
        needRange(what, 0, 5);
        switch (what) {
            case 0:
                return now.orders.customer[order];
            case 1:
                return now.orders.product[order];
            case 2:
                return now.orders.open[order];
            case 3:
                return now.orders.piecesAt(order);
            case 4:
                return now.orders.due[order];
            default:
                return now.orders.wantedDay(order);
        }
    }

    public int lotsOf(int order) throws IndexOutOfBoundsException {
        needOrder(order);
        int lots = 0;
        for (int lot = 0; lot < now.lots.count; lot++) {
            if (now.orders.piecesOf(order, lot) > 0) {
                lots |= 1 << lot;
            }
        }
        return lots;
    }

    public int orderCount() {
        return now.orders.count;
    }

    // ---- waves

    public int wave() {
        remember();
        now.shelves.picked = 0L;
        now.shelves.countLots(rest);
        int given = 0;
        for (int k = 0; k < now.orders.count; k++) {
            given += serve(now.orders.byDue[k], true);
        }
        now.books[BOOK_GIVEN] += given;
        return given;
    }

    public int unfilled(int product) throws IndexOutOfBoundsException {
        needProduct(product);
        return leftOpen(product);
    }

    public int proofDay(int product) throws IndexOutOfBoundsException, NoSuchElementException {
        needProduct(product);
        if (leftOpen(product) == 0) {
            throw new NoSuchElementException("nothing would stay open");
        }
        int proof = NONE;
        int greatest = 0;
        for (int order = 0; order < now.orders.count; order++) {
            if (now.orders.product[order] == product && now.orders.open[order] > 0) {
                int day = now.orders.wantedDay(order);
                int lack = lackAt(product, day);
                if (proof == NONE || lack > greatest || (lack == greatest && day < proof)) {
                    proof = day;
                    greatest = lack;
                }
            }
        }
        return proof;
    }

    public int difference(int product, int day) throws IndexOutOfBoundsException, IllegalArgumentException {
        needProduct(product);
        needRange(day, 0, 3000);
        return lackAt(product, day);
    }

    public int pickCount() {
        return Long.bitCount(now.shelves.picked);
    }

    public int pickLength(int rule) throws IllegalArgumentException, IllegalStateException {
        needRange(rule, THROUGH, LEAST);
        if (rule == THROUGH) {
            return picker.through(now.shelves);
        }
        if (rule == BACK) {
            return picker.back(now.shelves);
        }
        needState(Long.bitCount(now.shelves.picked) <= MOST_LEAST_PLACES);
        return picker.least(now.shelves);
    }

    // ---- boxes

    public int addItem(int size) throws IllegalArgumentException, IllegalStateException {
        needRange(size, 1, 20);
        needState(now.itemCount < MOST_ITEMS);
        remember();
        now.items[now.itemCount] = size;
        now.itemCount++;
        return now.itemCount;
    }

    public int clearItems() {
        remember();
        int cleared = now.itemCount;
        now.itemCount = 0;
        return cleared;
    }

    public int boxes(int size) throws IllegalArgumentException {
        needRange(size, 1, 40);
        for (int item = 0; item < now.itemCount; item++) {
            needRange(now.items[item], 1, size);
        }
        return fewestBoxes(size);
    }

    public int boxBound(int size) throws IllegalArgumentException {
        needRange(size, 1, 40);
        int sum = 0;
        for (int item = 0; item < now.itemCount; item++) {
            sum += now.items[item];
        }
        return (sum + size - 1) / size;
    }

    // ---- planning

    public int setWants(int a, int b, int c, int d, int e) throws IllegalArgumentException {
        needRange(a, 0, 9);
        needRange(b, 0, 9);
        needRange(c, 0, 9);
        needRange(d, 0, 9);
        needRange(e, 0, 9);
        int sum = a + b + c + d + e;
        if (sum == 0) {
            throw new IllegalArgumentException("all weights are 0");
        }
        remember();
        now.terms[0] = a;
        now.terms[1] = b;
        now.terms[2] = c;
        now.terms[3] = d;
        now.terms[4] = e;
        return sum;
    }

    public int setCosts(int order, int unit, int holding, int penalty, int cap) throws IllegalArgumentException {
        needRange(order, 0, 99);
        needRange(unit, 0, 20);
        needRange(holding, 0, 20);
        needRange(penalty, unit + 1, 60);
        needRange(cap, 0, 20);
        remember();
        int capBefore = now.terms[CAP];
        now.terms[ORDER_COST] = order;
        now.terms[UNIT_COST] = unit;
        now.terms[HOLDING_COST] = holding;
        now.terms[PENALTY] = penalty;
        now.terms[CAP] = cap;
        return capBefore;
    }

    public int lowBound(int periods) throws IllegalArgumentException {
        needRange(periods, 1, MOST_PERIODS);
        plan.solve(now.terms);
        return plan.low[periods];
    }

    public int highBound(int periods) throws IllegalArgumentException {
        needRange(periods, 1, MOST_PERIODS);
        plan.solve(now.terms);
        return plan.high[periods];
    }

    public int bestAct(int periods, int level) throws IllegalArgumentException {
        needRange(periods, 1, MOST_PERIODS);
        needRange(level, LOWEST_LEVEL, now.terms[CAP]);
        plan.solve(now.terms);
        return plan.act[Plan.cell(periods, level)];
    }

    public long planCost(int periods, int level, boolean isBottom) throws IllegalArgumentException {
        needRange(periods, 1, MOST_PERIODS);
        needRange(level, LOWEST_LEVEL, now.terms[CAP]);
        plan.solve(now.terms);
        long top = plan.cost[Plan.cell(periods, level)];
        long bottom = plan.bottom[periods];
        long common = commonDivisor(top, bottom);
        if (common == 0) {
            return 0L;
        }
        return isBottom ? bottom / common : top / common;
    }

    // ---- books, undo, measures

    public int book(int what) throws IllegalArgumentException {
        needRange(what, 0, BOOK_ON_HAND);
        return what == BOOK_ON_HAND ? now.shelves.piecesOnHand() : now.books[what];
    }

    public int undo() throws IllegalStateException {
        needState(acts > 0);
        int slot = (nextSlot + MOST_ACTS - 1) % MOST_ACTS;
        State before = past[slot];
        if (before != null) {
            now.copyFrom(before);
        }
        nextSlot = slot;
        acts--;
        return acts;
    }

    public int actCount() {
        return acts;
    }

    public double meanLife() {
        long days = 0;
        long pieces = 0;
        now.shelves.countLots(rest);
        for (int lot = 0; lot < now.lots.count; lot++) {
            days += (long) (now.lots.last[lot] - now.today) * rest[lot];
            pieces += rest[lot];
        }
        return pieces == 0 ? 0.0 : (double) days / (double) pieces;
    }

    public float givenShare() {
        int had = 0;
        int open = 0;
        for (int order = 0; order < now.orders.count; order++) {
            had += now.orders.piecesAt(order);
            open += now.orders.open[order];
        }
        return had + open == 0 ? 0.0f : (float) had / (float) (had + open);
    }

    public long checksum() {
        long c = 31L * 17L + now.today;
        for (int place = 0; place < now.shelves.places; place++) {
            c = 31L * c + now.shelves.lot[place];
            c = 31L * c + now.shelves.pieces[place];
        }
        for (int order = 0; order < now.orders.count; order++) {
            c = 31L * c + now.orders.open[order];
            c = 31L * c + now.orders.piecesAt(order);
        }
        return c;
    }

    public int errors() {
        int wrong = 0;
        for (int product = 0; product < now.products; product++) {
            if (leftOpen(product) != greatestLack(product)) {
                wrong++;
            }
        }
        if (!doBooksAddUp()) {
            wrong++;
        }
        plan.solve(now.terms);
        return wrong + plan.strayActs();
    }

    // ---- what the calls are made of

    private static void needRange(int number, int least, int most) {
        if (number < least || number > most) {
            throw new IllegalArgumentException("a number is out of range");
        }
    }

    private static void needState(boolean isFit) {
        if (!isFit) {
            throw new IllegalStateException("not possible now");
        }
    }

    private void needProduct(int product) {
        if (product < 0 || product >= now.products) {
            throw new IndexOutOfBoundsException("no such product");
        }
    }

    private void needLot(int lot) {
        if (!now.lots.exists(lot)) {
            throw new IndexOutOfBoundsException("no such lot");
        }
    }

    private void needPlace(int place) {
        if (!now.shelves.exists(place)) {
            throw new IndexOutOfBoundsException("no such place");
        }
    }

    private void needOrder(int order) {
        if (!now.orders.exists(order)) {
            throw new IndexOutOfBoundsException("no such order");
        }
    }

    /** Keeps all as it is before an act; its slots are made when first needed, and used again. */
    private void remember() {
        State kept = past[nextSlot];
        if (kept == null) {
            kept = new State();
            past[nextSlot] = kept;
        }
        kept.copyFrom(now);
        nextSlot = (nextSlot + 1) % MOST_ACTS;
        acts = Math.min(acts + 1, MOST_ACTS);
    }

    /** Serves an order from the rest of the lots as a wave does; if it is real, pieces are handed over. */
    private int serve(int order, boolean isReal) {
        if (!now.orders.exists(order)) {
            return 0;
        }
        int open = now.orders.open[order];
        int given = 0;
        for (int k = 0; k < now.lots.count && given < open; k++) {
            int lot = now.lots.byLast[k];
            if (now.lots.isFit(lot, now.orders.product[order], now.orders.wantedDay(order))) {
                int part = Math.min(open - given, rest[lot]);
                rest[lot] -= part;
                given += part;
                if (isReal && part > 0) {
                    now.shelves.pick(lot, part);
                    now.orders.give(order, lot, part);
                }
            }
        }
        return given;
    }

    private int leftOpen(int product) {
        now.shelves.countLots(rest);
        int left = 0;
        for (int k = 0; k < now.orders.count; k++) {
            int order = now.orders.byDue[k];
            if (now.orders.isOf(order, product)) {
                left += now.orders.open[order] - serve(order, false);
            }
        }
        return left;
    }

    private int lackAt(int product, int day) {
        int lack = now.orders.openFrom(product, day);
        now.shelves.countLots(rest);
        for (int lot = 0; lot < now.lots.count; lot++) {
            if (now.lots.isFit(lot, product, day)) {
                lack -= rest[lot];
            }
        }
        return lack;
    }

    private int greatestLack(int product) {
        int greatest = 0;
        for (int order = 0; order < now.orders.count; order++) {
            if (now.orders.isOf(order, product)) {
                greatest = Math.max(greatest, lackAt(product, now.orders.wantedDay(order)));
            }
        }
        return greatest;
    }

    private boolean doBooksAddUp() {
        int in = now.books[BOOK_IN] + now.books[BOOK_BACK] + now.books[BOOK_FOUND];
        int out = now.books[BOOK_GIVEN] + now.books[BOOK_SCRAPPED] + now.books[BOOK_LOST];
        return in - out == now.shelves.piecesOnHand();
    }

    /** How many free places the pieces that come back need, besides the room where their lots are. */
    private int placesForReturn(int order, int pieces) {
        int needed = 0;
        int left = pieces;
        int stamp = NO_LIMIT;
        for (int k = 0; k < MOST_LOTS && left > 0; k++) {
            int lot = now.orders.latestLot(order, stamp);
            if (!now.lots.exists(lot)) {
                break;
            }
            int part = Math.min(left, now.orders.piecesOf(order, lot));
            if (!now.lots.isWaste(lot, now.today)) {
                needed += now.shelves.placesFor(part - now.shelves.roomBeside(lot));
            }
            left -= part;
            stamp = now.orders.stampOf(order, lot);
        }
        return needed;
    }

    private int takeBack(int order, int pieces) {
        int scrapped = 0;
        int left = pieces;
        for (int k = 0; k < MOST_LOTS && left > 0; k++) {
            int lot = now.orders.latestLot(order, NO_LIMIT);
            if (!now.lots.exists(lot)) {
                break;
            }
            int part = Math.min(left, now.orders.piecesOf(order, lot));
            now.orders.takeBack(order, lot, part);
            left -= part;
            if (now.lots.isWaste(lot, now.today)) {
                scrapped += part;
            } else {
                int over = now.shelves.putBeside(lot, part, CAME_BACK);
                now.shelves.putAway(lot, over, CAME_BACK);
            }
        }
        return scrapped;
    }

    /**
     * For each set of items the fewest boxes, and with these the least that lies in the latest one:
     * boxes times 64 plus what lies in it. The empty set has no box, which is as good as a full one.
     */
    private int fewestBoxes(int size) {
        int sets = 1 << now.itemCount;
        packed[0] = size;
        for (int set = 1; set < sets && set < packed.length; set++) {
            int best = NO_LIMIT;
            for (int item = 0; item < now.itemCount; item++) {
                if ((set & 1 << item) != 0) {
                    best = Math.min(best, withItem(packed[set & ~(1 << item)], now.items[item], size));
                }
            }
            packed[set] = best;
        }
        return packed[sets - 1] / 64;
    }

    private static int withItem(int boxesAndFill, int item, int size) {
        boolean isRoomLeft = boxesAndFill % 64 + item <= size;
        return isRoomLeft ? boxesAndFill + item : (boxesAndFill / 64 + 1) * 64 + item;
    }

    private static long commonDivisor(long a, long b) {
        long high = a;
        long low = b;
        for (int round = 0; round < 1000 && low != 0; round++) {
            long left = high % low;
            high = low;
            low = left;
        }
        return high;
    }

    /** The usual calendar from 2024 to 2030. */
    private static final class Dates {
        static final int FIRST_YEAR = 2024;
        static final int LAST_YEAR = 2030;
        static final int MONTHS = 12;
        private static final int[] MONTH_DAYS = {31, 28, 31, 30, 31, 30, 31, 31, 30, 31, 30, 31};

        static int daysOfYear(int year) {
            return year % 4 == 0 ? 366 : 365;
        }

        static int daysOfMonth(int year, int month) {
            if (month < 1 || month > MONTH_DAYS.length) {
                return 0;
            }
            return month == 2 && year % 4 == 0 ? 29 : MONTH_DAYS[month - 1];
        }

        static int numberOf(int year, int month, int day) {
            int number = day - 1;
            for (int y = FIRST_YEAR; y < year; y++) {
                number += daysOfYear(y);
            }
            for (int m = 1; m < month; m++) {
                number += daysOfMonth(year, m);
            }
            return number;
        }

        static int dateAt(int number) {
            int left = number;
            int year = FIRST_YEAR;
            for (; year < LAST_YEAR && left >= daysOfYear(year); year++) {
                left -= daysOfYear(year);
            }
            int month = 1;
            for (; month < MONTHS && left >= daysOfMonth(year, month); month++) {
                left -= daysOfMonth(year, month);
            }
            return year * 10000 + month * 100 + left + 1;
        }
    }

    /** All that an act can change, so that it can be brought back as a whole. */
    private static final class State {
        int today;
        int products;
        int itemCount;
        final int[] items = new int[MOST_ITEMS];
        final int[] books = new int[BOOKS];
        final int[] terms = new int[TERMS];
        final Shelves shelves = new Shelves();
        final Lots lots = new Lots();
        final Orders orders = new Orders();

        void empty() {
            today = 0;
            products = 0;
            for (int k = 0; k < books.length; k++) {
                books[k] = 0;
            }
            lots.count = 0;
            orders.clear();
        }

        void copyFrom(State other) {
            today = other.today;
            products = other.products;
            itemCount = other.itemCount;
            System.arraycopy(other.items, 0, items, 0, items.length);
            System.arraycopy(other.books, 0, books, 0, books.length);
            System.arraycopy(other.terms, 0, terms, 0, terms.length);
            shelves.copyFrom(other.shelves);
            lots.copyFrom(other.lots);
            orders.copyFrom(other.orders);
        }
    }

    /** The places of the house, and what lies in them. */
    private static final class Shelves {
        int lanes;
        int positions;
        int room;
        int gap;
        int places;
        /** The places of the latest wave, a bit for each. */
        long picked;
        final int[] lot = new int[MOST_PLACES];
        final int[] pieces = new int[MOST_PLACES];
        final int[] mark = new int[MOST_PLACES];
        final int[] byDistance = new int[MOST_PLACES];

        void build(int newLanes, int newPositions, int newRoom, int newGap) {
            lanes = newLanes;
            positions = newPositions;
            room = newRoom;
            gap = newGap;
            places = Math.min(lanes * positions, MOST_PLACES);
            picked = 0L;
            for (int place = 0; place < places; place++) {
                set(place, NONE, 0, 0);
            }
            sortByDistance();
        }

        private void sortByDistance() {
            int sorted = 0;
            int farthest = gap * lanes + positions;
            for (int distance = 1; distance <= farthest; distance++) {
                for (int place = 0; place < places && sorted < places; place++) {
                    if (distanceOf(place) == distance) {
                        byDistance[sorted] = place;
                        sorted++;
                    }
                }
            }
        }

        boolean exists(int place) {
            return place >= 0 && place < places && place < MOST_PLACES;
        }

        boolean isFree(int place) {
            return exists(place) && pieces[place] == 0;
        }

        boolean isWith(int place, int ofLot) {
            return exists(place) && pieces[place] > 0 && lot[place] == ofLot;
        }

        boolean isPicked(int lane, int position) {
            return (picked & 1L << (lane * positions + position - 1)) != 0L;
        }

        int distanceOf(int place) {
            return positions < 1 ? 0 : gap * (place / positions) + place % positions + 1;
        }

        void set(int place, int newLot, int newPieces, int newMark) {
            if (exists(place)) {
                lot[place] = newPieces == 0 ? NONE : newLot;
                pieces[place] = newPieces;
                mark[place] = newMark;
            }
        }

        int nearestFree() {
            for (int k = 0; k < places; k++) {
                if (isFree(byDistance[k])) {
                    return byDistance[k];
                }
            }
            return NONE;
        }

        int freePlaces() {
            int free = 0;
            for (int place = 0; place < places; place++) {
                if (isFree(place)) {
                    free++;
                }
            }
            return free;
        }

        /** How many free places so many pieces of one lot need. */
        int placesFor(int newPieces) {
            return newPieces <= 0 || room < 1 ? 0 : (newPieces + room - 1) / room;
        }

        int piecesOf(int ofLot) {
            int sum = 0;
            for (int place = 0; place < places; place++) {
                if (isWith(place, ofLot)) {
                    sum += pieces[place];
                }
            }
            return sum;
        }

        int piecesOnHand() {
            int sum = 0;
            for (int place = 0; place < places; place++) {
                sum += pieces[place];
            }
            return sum;
        }

        void countLots(int[] onHand) {
            for (int k = 0; k < onHand.length; k++) {
                onHand[k] = 0;
            }
            for (int place = 0; place < places; place++) {
                int here = lot[place];
                if (here >= 0 && here < onHand.length) {
                    onHand[here] += pieces[place];
                }
            }
        }

        int roomBeside(int ofLot) {
            int sum = 0;
            for (int place = 0; place < places; place++) {
                if (isWith(place, ofLot)) {
                    sum += room - pieces[place];
                }
            }
            return sum;
        }

        /** Puts pieces where their lot is, as far as there is room, and answers how many are left. */
        int putBeside(int ofLot, int newPieces, int newMark) {
            int left = newPieces;
            for (int k = 0; k < places && left > 0; k++) {
                int place = byDistance[k];
                if (isWith(place, ofLot) && pieces[place] < room) {
                    int part = Math.min(left, room - pieces[place]);
                    set(place, ofLot, pieces[place] + part, newMark);
                    left -= part;
                }
            }
            return left;
        }

        void putAway(int ofLot, int newPieces, int newMark) {
            int left = newPieces;
            for (int k = 0; k < places && left > 0; k++) {
                int place = byDistance[k];
                if (isFree(place)) {
                    int part = Math.min(left, room);
                    set(place, ofLot, part, newMark);
                    left -= part;
                }
            }
        }

        void pick(int ofLot, int wanted) {
            int left = wanted;
            for (int k = 0; k < places && left > 0; k++) {
                int place = byDistance[k];
                if (isWith(place, ofLot)) {
                    int part = Math.min(left, pieces[place]);
                    set(place, ofLot, pieces[place] - part, GIVEN);
                    picked |= 1L << place;
                    left -= part;
                }
            }
        }

        int scrapLot(int ofLot) {
            int sum = 0;
            for (int place = 0; place < places; place++) {
                if (isWith(place, ofLot)) {
                    sum += pieces[place];
                    set(place, NONE, 0, SCRAPPED);
                }
            }
            return sum;
        }

        void copyFrom(Shelves other) {
            lanes = other.lanes;
            positions = other.positions;
            room = other.room;
            gap = other.gap;
            places = other.places;
            picked = other.picked;
            System.arraycopy(other.lot, 0, lot, 0, lot.length);
            System.arraycopy(other.pieces, 0, pieces, 0, pieces.length);
            System.arraycopy(other.mark, 0, mark, 0, mark.length);
            System.arraycopy(other.byDistance, 0, byDistance, 0, byDistance.length);
        }
    }

    /** The lots that came in. */
    private static final class Lots {
        int count;
        final int[] product = new int[MOST_LOTS];
        final int[] last = new int[MOST_LOTS];
        final int[] cost = new int[MOST_LOTS];
        final int[] state = new int[MOST_LOTS];
        final int[] byLast = new int[MOST_LOTS];

        boolean exists(int lot) {
            return lot >= 0 && lot < count && lot < MOST_LOTS;
        }

        private int lastOf(int lot) {
            return exists(lot) ? last[lot] : NONE;
        }

        int add(int newProduct, int lastDay, int newCost) {
            if (count >= MOST_LOTS) {
                return NONE;
            }
            int at = count;
            for (; at > 0 && lastOf(byLast[at - 1]) > lastDay; at--) {
                byLast[at] = byLast[at - 1];
            }
            byLast[at] = count;
            product[count] = newProduct;
            last[count] = lastDay;
            cost[count] = newCost;
            state[count] = GOOD;
            count++;
            return count - 1;
        }

        boolean isFit(int lot, int ofProduct, int day) {
            return exists(lot) && product[lot] == ofProduct && state[lot] == GOOD && last[lot] >= day;
        }

        boolean isWaste(int lot, int today) {
            return exists(lot) && (state[lot] == RECALLED || last[lot] < today);
        }

        void copyFrom(Lots other) {
            count = other.count;
            System.arraycopy(other.product, 0, product, 0, product.length);
            System.arraycopy(other.last, 0, last, 0, last.length);
            System.arraycopy(other.cost, 0, cost, 0, cost.length);
            System.arraycopy(other.state, 0, state, 0, state.length);
            System.arraycopy(other.byLast, 0, byLast, 0, byLast.length);
        }
    }

    /** The orders, and the pieces of each lot that each of them has. */
    private static final class Orders {
        int count;
        /** How often pieces were given: the stamp of the latest gift. */
        private int gifts;
        final int[] customer = new int[MOST_ORDERS];
        final int[] product = new int[MOST_ORDERS];
        final int[] open = new int[MOST_ORDERS];
        final int[] due = new int[MOST_ORDERS];
        final int[] life = new int[MOST_ORDERS];
        final int[] byDue = new int[MOST_ORDERS];
        private final int[] had = new int[MOST_ORDERS * MOST_LOTS];
        private final int[] stamps = new int[MOST_ORDERS * MOST_LOTS];

        void clear() {
            count = 0;
            gifts = 0;
        }

        boolean exists(int order) {
            return order >= 0 && order < count && order < MOST_ORDERS;
        }

        boolean isOf(int order, int ofProduct) {
            return exists(order) && product[order] == ofProduct;
        }

        int wantedDay(int order) {
            return exists(order) ? due[order] + life[order] : NONE;
        }

        private int dueOf(int order) {
            return exists(order) ? due[order] : NONE;
        }

        private boolean isCell(int order, int lot) {
            return exists(order) && lot >= 0 && lot < MOST_LOTS;
        }

        int add(int newCustomer, int newProduct, int pieces, int dueDay, int newLife) {
            if (count >= MOST_ORDERS) {
                return NONE;
            }
            int at = count;
            for (; at > 0 && dueOf(byDue[at - 1]) > dueDay; at--) {
                byDue[at] = byDue[at - 1];
            }
            byDue[at] = count;
            customer[count] = newCustomer;
            product[count] = newProduct;
            open[count] = pieces;
            due[count] = dueDay;
            life[count] = newLife;
            for (int lot = 0; lot < MOST_LOTS; lot++) {
                had[count * MOST_LOTS + lot] = 0;
                stamps[count * MOST_LOTS + lot] = 0;
            }
            count++;
            return count - 1;
        }

        int piecesOf(int order, int lot) {
            return isCell(order, lot) ? had[order * MOST_LOTS + lot] : 0;
        }

        int stampOf(int order, int lot) {
            return isCell(order, lot) ? stamps[order * MOST_LOTS + lot] : 0;
        }

        int piecesAt(int order) {
            int sum = 0;
            for (int lot = 0; lot < MOST_LOTS; lot++) {
                sum += piecesOf(order, lot);
            }
            return sum;
        }

        int piecesOutOf(int lot) {
            int sum = 0;
            for (int order = 0; order < count; order++) {
                sum += piecesOf(order, lot);
            }
            return sum;
        }

        int openFrom(int ofProduct, int day) {
            int sum = 0;
            for (int order = 0; order < count; order++) {
                if (product[order] == ofProduct && wantedDay(order) >= day) {
                    sum += open[order];
                }
            }
            return sum;
        }

        void give(int order, int lot, int pieces) {
            if (isCell(order, lot)) {
                open[order] -= pieces;
                had[order * MOST_LOTS + lot] += pieces;
                gifts++;
                stamps[order * MOST_LOTS + lot] = gifts;
            }
        }

        void takeBack(int order, int lot, int pieces) {
            if (isCell(order, lot)) {
                had[order * MOST_LOTS + lot] -= pieces;
            }
        }

        /** Of the lots that the order has pieces of, the one given latest with a stamp below the told one. */
        int latestLot(int order, int below) {
            int latest = NONE;
            for (int lot = 0; lot < MOST_LOTS; lot++) {
                boolean isAsked = piecesOf(order, lot) > 0 && stampOf(order, lot) < below;
                if (isAsked && (latest == NONE || stampOf(order, lot) > stampOf(order, latest))) {
                    latest = lot;
                }
            }
            return latest;
        }

        void copyFrom(Orders other) {
            count = other.count;
            gifts = other.gifts;
            System.arraycopy(other.customer, 0, customer, 0, customer.length);
            System.arraycopy(other.product, 0, product, 0, product.length);
            System.arraycopy(other.open, 0, open, 0, open.length);
            System.arraycopy(other.due, 0, due, 0, due.length);
            System.arraycopy(other.life, 0, life, 0, life.length);
            System.arraycopy(other.byDue, 0, byDue, 0, byDue.length);
            System.arraycopy(other.had, 0, had, 0, had.length);
            System.arraycopy(other.stamps, 0, stamps, 0, stamps.length);
        }
    }

    /**
     * The ways to the places of the latest wave. The least way goes lane by lane: of all that was
     * walked so far only matters how often it meets the front and the back of the lane (oddly,
     * evenly, never), and whether its parts hang together.
     */
    private static final class Picker {
        private static final int ODD = 0, FRONT = 1, REAR = 2, JOINED = 3, APART = 4;
        private static final int FORMS = 5;
        private static final int FAR = 1000000;

        private final int[] least = new int[FORMS];
        private final int[] next = new int[FORMS];
        private int deepest;
        private int shallowest;
        private int widest;

        /** Finds the greatest and the least place in a lane, and the widest stretch between neighbours. */
        private void look(Shelves shelves, int lane) {
            deepest = 0;
            shallowest = 0;
            widest = 0;
            for (int position = 1; position <= shelves.positions; position++) {
                if (shelves.isPicked(lane, position)) {
                    if (deepest == 0) {
                        shallowest = position;
                    } else {
                        widest = Math.max(widest, position - deepest);
                    }
                    deepest = position;
                }
            }
        }

        private int lastLane(Shelves shelves) {
            int last = NONE;
            for (int lane = 0; lane < shelves.lanes; lane++) {
                look(shelves, lane);
                if (deepest > 0) {
                    last = lane;
                }
            }
            return last;
        }

        int through(Shelves shelves) {
            int last = lastLane(shelves);
            if (last == NONE) {
                return 0;
            }
            int met = 0;
            for (int lane = 0; lane <= last; lane++) {
                look(shelves, lane);
                if (deepest > 0) {
                    met++;
                }
            }
            int length = 2 * shelves.gap * last + (met - met % 2) * (shelves.positions + 1);
            return met % 2 == 0 ? length : length + 2 * deepest;
        }

        int back(Shelves shelves) {
            int last = lastLane(shelves);
            if (last == NONE) {
                return 0;
            }
            int length = 2 * shelves.gap * last;
            for (int lane = 0; lane <= last; lane++) {
                look(shelves, lane);
                length += 2 * deepest;
            }
            return length;
        }

        int least(Shelves shelves) {
            int last = lastLane(shelves);
            if (last == NONE) {
                return 0;
            }
            for (int form = 0; form < FORMS; form++) {
                least[form] = FAR;
            }
            least[FRONT] = 0;
            for (int lane = 0; lane <= last; lane++) {
                if (lane > 0) {
                    crossOver(shelves.gap);
                }
                look(shelves, lane);
                walkLane(shelves.positions + 1);
            }
            return Math.min(least[FRONT], Math.min(least[REAR], least[JOINED]));
        }

        private void crossOver(int gap) {
            next[ODD] = least[ODD] + 2 * gap;
            next[FRONT] = Math.min(least[FRONT], least[JOINED]) + 2 * gap;
            next[REAR] = Math.min(least[REAR], least[JOINED]) + 2 * gap;
            next[JOINED] = least[JOINED] + 4 * gap;
            next[APART] = least[APART] + 4 * gap;
            takeNext();
        }

        private void walkLane(int length) {
            int oneSided = Math.min(least[FRONT], least[REAR]);
            int even = Math.min(oneSided, Math.min(least[JOINED], least[APART]));
            next[ODD] = Math.min(even + length, least[ODD] + 2 * length);
            next[JOINED] = Math.min(even + 2 * length, least[ODD] + length);
            next[FRONT] = FAR;
            next[REAR] = FAR;
            next[APART] = FAR;
            if (deepest == 0) {
                skipLane();
            } else {
                turnInLane(length);
            }
            takeNext();
        }

        private void skipLane() {
            for (int form = 0; form < FORMS; form++) {
                next[form] = Math.min(next[form], least[form]);
            }
        }

        private void turnInLane(int length) {
            int fromFront = 2 * deepest;
            int fromRear = 2 * (length - shallowest);
            int fromBoth = 2 * (length - widest);
            int shortest = Math.min(fromFront, Math.min(fromRear, fromBoth));
            next[ODD] = Math.min(next[ODD], least[ODD] + shortest);
            next[JOINED] = Math.min(next[JOINED], least[JOINED] + shortest);
            next[FRONT] = least[FRONT] + fromFront;
            next[REAR] = least[REAR] + fromRear;
            int newRear = least[FRONT] + Math.min(fromRear, fromBoth);
            int newFront = least[REAR] + Math.min(fromFront, fromBoth);
            next[APART] = Math.min(least[APART] + shortest, Math.min(newRear, newFront));
        }

        private void takeNext() {
            for (int form = 0; form < FORMS; form++) {
                least[form] = next[form];
            }
        }
    }

    /** The best acts of section 8; costs are whole numbers over the sum of the weights, once for each period. */
    private static final class Plan {
        private static final int DEEPEST = -40;
        private static final int LEVELS = 61;

        private final int[] terms = new int[TERMS];
        final int[] low = new int[MOST_PERIODS + 1];
        final int[] high = new int[MOST_PERIODS + 1];
        final long[] bottom = new long[MOST_PERIODS + 1];
        final long[] cost = new long[(MOST_PERIODS + 1) * LEVELS];
        final int[] act = new int[(MOST_PERIODS + 1) * LEVELS];

        static int cell(int periods, int level) {
            int in = Math.max(0, Math.min(level - DEEPEST, LEVELS - 1));
            return Math.max(0, Math.min(periods, MOST_PERIODS)) * LEVELS + in;
        }

        /** Solved anew only for other terms; at first all weights here are 0, which no asked ones are. */
        void solve(int[] asked) {
            if (!takeTerms(asked)) {
                return;
            }
            int weights = 0;
            for (int want = 0; want < WANTS; want++) {
                weights += terms[want];
            }
            bottom[0] = 1L;
            for (int periods = 1; periods <= MOST_PERIODS; periods++) {
                bottom[periods] = bottom[periods - 1] * weights;
                solvePeriod(periods);
            }
        }

        private boolean takeTerms(int[] asked) {
            boolean isOther = false;
            for (int k = 0; k < terms.length && k < asked.length; k++) {
                isOther = isOther || terms[k] != asked[k];
                terms[k] = asked[k];
            }
            return isOther;
        }

        private void solvePeriod(int periods) {
            int lowest = LOWEST_LEVEL - (WANTS - 1) * (MOST_PERIODS - periods);
            long unit = terms[UNIT_COST] * bottom[periods];
            long fixed = terms[ORDER_COST] * bottom[periods];
            int target = terms[CAP];
            long targetCost = 0L;
            for (int level = terms[CAP]; level >= lowest; level--) {
                long stay = stayCost(periods, level);
                long order = fixed + targetCost - unit * level;
                boolean isOrder = level < terms[CAP] && order < stay;
                cost[cell(periods, level)] = isOrder ? order : stay;
                act[cell(periods, level)] = isOrder ? target : level;
                // Equal ones pass on to the lower level, for the least level is asked.
                if (level == terms[CAP] || stay + unit * level <= targetCost) {
                    targetCost = stay + unit * level;
                    target = level;
                }
                if (level >= LOWEST_LEVEL) {
                    high[periods] = target;
                    low[periods] = isOrder ? low[periods] : level;
                }
            }
        }

        private long stayCost(int periods, int level) {
            long sum = 0;
            for (int want = 0; want < WANTS; want++) {
                int left = level - want;
                long paid = left > 0 ? terms[HOLDING_COST] * left : terms[PENALTY] * -left;
                sum += terms[want] * (paid * bottom[periods - 1] + cost[cell(periods - 1, left)]);
            }
            return sum;
        }

        /** How many best acts are others than by the bounds. */
        int strayActs() {
            int stray = 0;
            for (int periods = 1; periods <= MOST_PERIODS; periods++) {
                for (int level = LOWEST_LEVEL; level <= terms[CAP]; level++) {
                    int byBounds = level < low[periods] ? high[periods] : level;
                    if (act[cell(periods, level)] != byBounds) {
                        stray++;
                    }
                }
            }
            return stray;
        }
    }
}
