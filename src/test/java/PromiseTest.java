import java.util.NoSuchElementException;

/** Each promise of the document by itself: answers worked out by hand from its words. */
public final class PromiseTest {
    private static int checks = 0;
    private static int wrong = 0;
    private static String part = "";

    private interface Call { Object run(); }

    private static void is(Object want, Object got) {
        checks++;
        if (!want.equals(got)) {
            wrong++;
            System.out.println("promise " + part + ", check " + checks + ": answered " + got + ", due is " + want);
        }
    }

    private static void fails(Class<? extends RuntimeException> want, Call call) {
        Object got;
        try {
            got = call.run();
        } catch (RuntimeException e) {
            got = e.getClass();
        }
        is(want, got);
    }

    /** Throws, and changes nothing that can be seen, nor the acts that are remembered. */
    private static void failsFlat(LanesAndLots x, Class<? extends RuntimeException> want, Call call) {
        String before = Look.at(x);
        fails(want, call);
        is(before, Look.at(x));
    }

    private static final Class<IllegalArgumentException> ARGUMENT = IllegalArgumentException.class;
    private static final Class<IllegalStateException> STATE = IllegalStateException.class;
    private static final Class<IndexOutOfBoundsException> INDEX = IndexOutOfBoundsException.class;
    private static final Class<NoSuchElementException> NONE_SUCH = NoSuchElementException.class;

    private static LanesAndLots house(int lanes, int positions, int room, int gap, int products) {
        LanesAndLots x = new LanesAndLots();
        x.newHouse(lanes, positions, room, gap);
        for (int k = 0; k < products; k++) x.addProduct();
        return x;
    }

    private static void newObject() {
        part = "1";
        LanesAndLots x = new LanesAndLots();
        is(12, x.placeCount());
        is(0, x.today());
        is(0, x.lotCount());
        is(0, x.orderCount());
        is(0, x.clearItems());
        fails(INDEX, () -> x.stock(0));
        for (int what = 0; what < 7; what++) is(0, x.book(what));
        int[] distances = {1, 2, 3, 4, 3, 4, 5, 6, 5, 6, 7, 8};
        for (int place = 0; place < 12; place++) {
            is(-1, x.placeAt(place, 0));
            is(0, x.placeAt(place, 1));
            is(distances[place], x.placeAt(place, 2));
            is(0, x.placeAt(place, 3));
        }
        is(0, x.pickCount());
        for (int rule = 0; rule < 3; rule++) is(0, x.pickLength(rule));
        is(10, x.setCosts(1, 1, 1, 2, 3));
        x.addProduct();
        fails(ARGUMENT, () -> x.count(0, 7));
        fails(STATE, () -> x.count(0, 6));
    }

    private static void newHouses() {
        part = "2";
        LanesAndLots x = new LanesAndLots();
        for (int[] bad : new int[][] {{0, 4, 6, 2}, {7, 4, 6, 2}, {3, 0, 6, 2}, {3, 9, 6, 2}, {3, 4, 0, 2}, {3, 4, 21, 2},
            {3, 4, 6, 0}, {3, 4, 6, 6}, {Integer.MIN_VALUE, Integer.MAX_VALUE, 1, 1}}) {
            failsFlat(x, ARGUMENT, () -> x.newHouse(bad[0], bad[1], bad[2], bad[3]));
        }
        is(0, x.actCount());
        x.addProduct();
        x.comeIn(0, 3, 5, 1);
        x.order(0, 0, 2, 1, 0);
        x.wave();
        x.addItem(7);
        x.setWants(0, 1, 0, 0, 0);
        x.setCosts(3, 2, 1, 9, 7);
        x.passDays(2);
        is(48, x.newHouse(6, 8, 20, 5));
        is(0, x.today());
        is(0, x.lotCount());
        is(0, x.orderCount());
        is(0, x.pickCount());
        is(0, x.pickLength(1));
        for (int what = 0; what < 7; what++) is(0, x.book(what));
        fails(INDEX, () -> x.unfilled(0));
        is(33, x.placeAt(47, 2));
        is(0, x.placeAt(0, 3));
        is(7, x.boxBound(1));
        is(7, x.setCosts(1, 1, 1, 2, 3));
        is(8, x.actCount());
        is(1, x.newHouse(1, 1, 1, 1));
        is(1, x.placeAt(0, 2));
    }

    private static void days() {
        part = "3 and 4";
        LanesAndLots x = house(3, 4, 6, 2, 1);
        for (int bad : new int[] {0, -1, 401, Integer.MAX_VALUE, Integer.MIN_VALUE}) failsFlat(x, ARGUMENT, () -> x.passDays(bad));
        x.comeIn(0, 7, 3, 1);
        x.comeIn(0, 2, 4, 1);
        x.hold(1, true);
        is(0, x.passDays(3));
        is(3, x.today());
        is(7, x.lotAt(0, 1));
        is(7, x.passDays(1));
        is(0, x.lotAt(0, 1));
        is(5, x.placeAt(0, 3));
        is(-1, x.placeAt(1, 0));
        is(2, x.passDays(400));
        is(404, x.today());
        is(9, x.book(3));
        for (int k = 0; k < 5; k++) x.passDays(400);
        failsFlat(x, STATE, () -> x.passDays(153));
        failsFlat(x, ARGUMENT, () -> x.passDays(401));
        is(0, x.passDays(152));
        is(2556, x.today());
        failsFlat(x, STATE, () -> x.passDays(1));
    }

    private static void dates() {
        part = "5 and 6";
        LanesAndLots x = new LanesAndLots();
        int[][] known = {{2024, 1, 1, 0}, {2024, 2, 29, 59}, {2024, 3, 1, 60}, {2024, 12, 31, 365}, {2025, 1, 1, 366},
            {2025, 2, 28, 424}, {2025, 3, 1, 425}, {2028, 2, 29, 1520}, {2030, 12, 31, 2556}};
        for (int[] k : known) {
            is(k[3], x.dayOf(k[0], k[1], k[2]));
            is(k[0] * 10000 + k[1] * 100 + k[2], x.dateOf(k[3]));
        }
        for (int day = 0; day <= 2556; day++) {
            java.time.LocalDate date = java.time.LocalDate.of(2024, 1, 1).plusDays(day);
            is(day, x.dayOf(date.getYear(), date.getMonthValue(), date.getDayOfMonth()));
            is(date.getYear() * 10000 + date.getMonthValue() * 100 + date.getDayOfMonth(), x.dateOf(day));
        }
        int[][] bad = {{2023, 12, 31}, {2031, 1, 1}, {2024, 0, 1}, {2024, 13, 1}, {2024, 1, 0}, {2024, 1, 32}, {2024, 2, 30},
            {2025, 2, 29}, {2030, 2, 29}, {2026, 4, 31}, {2026, 6, 31}, {2026, 9, 31}, {2026, 11, 31}, {2026, -1, 5}, {2026, 1, -5},
            {Integer.MIN_VALUE, 1, 1}, {2026, Integer.MAX_VALUE, 1}, {2026, 1, Integer.MAX_VALUE}};
        for (int[] b : bad) fails(ARGUMENT, () -> x.dayOf(b[0], b[1], b[2]));
        for (int b : new int[] {-1, 2557, Integer.MIN_VALUE, Integer.MAX_VALUE}) fails(ARGUMENT, () -> x.dateOf(b));
        is(0, x.actCount());
    }

    private static void products() {
        part = "7";
        LanesAndLots x = new LanesAndLots();
        for (int k = 0; k < 6; k++) {
            int product = k;
            fails(INDEX, () -> x.stock(product));
            is(k, x.addProduct());
            is(0, x.stock(k));
        }
        failsFlat(x, STATE, x::addProduct);
        is(6, x.actCount());
    }

    private static void comingIn() {
        part = "8";
        LanesAndLots x = house(3, 4, 6, 2, 1);
        x.passDays(5);
        for (int bad : new int[] {-1, 1, Integer.MAX_VALUE, Integer.MIN_VALUE}) failsFlat(x, INDEX, () -> x.comeIn(bad, 0, 0, -1));
        for (int bad : new int[] {0, 101, -5}) failsFlat(x, ARGUMENT, () -> x.comeIn(0, bad, 10, 1));
        for (int bad : new int[] {4, 2557}) failsFlat(x, ARGUMENT, () -> x.comeIn(0, 1, bad, 1));
        for (int bad : new int[] {-1, 10000}) failsFlat(x, ARGUMENT, () -> x.comeIn(0, 1, 10, bad));
        failsFlat(x, STATE, () -> x.comeIn(0, 73, 10, 1));
        failsFlat(x, ARGUMENT, () -> x.comeIn(0, 73, 4, 1));
        is(0, x.comeIn(0, 20, 5, 9999));
        int[] order = {0, 1, 2, 4};
        int[] pieces = {6, 6, 6, 2};
        for (int k = 0; k < 4; k++) {
            is(0, x.placeAt(order[k], 0));
            is(pieces[k], x.placeAt(order[k], 1));
            is(1, x.placeAt(order[k], 3));
        }
        is(0, x.placeAt(3, 1));
        is(3, x.firstFree());
        is(0, x.lotAt(0, 4));
        is(20, x.book(0));
        failsFlat(x, STATE, () -> x.comeIn(0, 49, 2556, 0));
        is(1, x.comeIn(0, 48, 2556, 0));
        failsFlat(x, STATE, () -> x.comeIn(0, 1, 10, 1));

        LanesAndLots many = house(6, 8, 20, 1, 1);
        for (int k = 0; k < 24; k++) is(k, many.comeIn(0, 1, 10, 1));
        failsFlat(many, STATE, () -> many.comeIn(0, 1, 10, 1));
        failsFlat(many, ARGUMENT, () -> many.comeIn(0, 0, 10, 1));
        is(24, many.lotCount());
        LanesAndLots big = house(6, 8, 20, 1, 1);
        is(0, big.comeIn(0, 100, 10, 1));
        is(100, big.stock(0));
    }

    private static void holding() {
        part = "9";
        LanesAndLots x = house(3, 4, 6, 2, 1);
        fails(INDEX, () -> x.hold(0, true));
        x.comeIn(0, 4, 9, 1);
        is(false, x.hold(0, false));
        is(false, x.hold(0, true));
        is(1, x.lotAt(0, 4));
        is(true, x.hold(0, true));
        x.order(0, 0, 2, 0, 0);
        is(0, x.wave());
        is(true, x.hold(0, false));
        is(0, x.lotAt(0, 4));
        is(2, x.wave());
        x.recall(0);
        failsFlat(x, STATE, () -> x.hold(0, true));
        failsFlat(x, STATE, () -> x.hold(0, false));
        for (int bad : new int[] {-1, 1, Integer.MAX_VALUE}) failsFlat(x, INDEX, () -> x.hold(bad, true));
    }

    private static void recalling() {
        part = "10";
        LanesAndLots x = house(3, 4, 6, 2, 1);
        fails(INDEX, () -> x.recall(0));
        x.comeIn(0, 8, 9, 1);
        x.comeIn(0, 3, 9, 1);
        x.hold(0, true);
        is(8, x.recall(0));
        is(2, x.lotAt(0, 4));
        is(0, x.lotAt(0, 1));
        is(5, x.placeAt(0, 3));
        is(5, x.placeAt(1, 3));
        is(1, x.placeAt(2, 3));
        is(8, x.book(3));
        failsFlat(x, STATE, () -> x.recall(0));
        for (int bad : new int[] {-1, 2, Integer.MIN_VALUE}) failsFlat(x, INDEX, () -> x.recall(bad));
        x.scrap(2, 3);
        is(0, x.recall(1));
    }

    private static void aboutLots() {
        part = "11 to 15";
        LanesAndLots x = house(3, 4, 6, 2, 3);
        x.comeIn(2, 8, 9, 77);
        x.comeIn(2, 5, 7, 9999);
        x.comeIn(1, 2, 8, 3);
        is(3, x.lotCount());
        x.hold(1, true);
        x.order(7, 2, 3, 0, 0);
        x.order(0, 2, 2, 0, 0);
        x.order(7, 2, 1, 0, 0);
        is(6, x.wave());
        int[] want = {2, 2, 9, 77, 0, 6};
        for (int what = 0; what < 6; what++) is(want[what], x.lotAt(0, what));
        is(1, x.lotAt(1, 4));
        is(129, x.customersOf(0));
        is(0, x.customersOf(1));
        is(7, x.stock(2));
        is(2, x.stock(1));
        is(0, x.stock(0));
        is(2L * 77 + 5L * 9999, x.stockCost(2));
        is(6L, x.stockCost(1));
        is(0L, x.stockCost(0));
        x.giveBack(0, 3);
        is(129, x.customersOf(0));
        x.giveBack(2, 1);
        is(1, x.customersOf(0));
        is(2, x.lotAt(0, 5));
        for (int bad : new int[] {-1, 3, Integer.MAX_VALUE, Integer.MIN_VALUE}) {
            fails(INDEX, () -> x.lotAt(bad, -1));
            fails(INDEX, () -> x.customersOf(bad));
            fails(INDEX, () -> x.stock(bad));
            fails(INDEX, () -> x.stockCost(bad));
        }
        for (int bad : new int[] {-1, 6, Integer.MAX_VALUE}) fails(ARGUMENT, () -> x.lotAt(0, bad));
        LanesAndLots rich = house(6, 8, 20, 1, 1);
        for (int k = 0; k < 9; k++) rich.comeIn(0, 100, 10, 9999);
        is(8999100L, rich.stockCost(0));
    }

    private static void aboutPlaces() {
        part = "16 to 18";
        LanesAndLots x = house(2, 3, 2, 1, 1);
        is(6, x.placeCount());
        for (int bad : new int[] {-1, 6, Integer.MAX_VALUE}) fails(INDEX, () -> x.placeAt(bad, 9));
        for (int bad : new int[] {-1, 4}) fails(ARGUMENT, () -> x.placeAt(0, bad));
        int[] byDistance = {0, 1, 3, 2, 4, 5};
        for (int place : byDistance) {
            is(place, x.firstFree());
            x.comeIn(0, 2, 9, 1);
        }
        fails(NONE_SUCH, x::firstFree);
        x.scrap(4, 2);
        is(4, x.firstFree());
    }

    private static void counting() {
        part = "19";
        LanesAndLots x = house(3, 4, 6, 2, 1);
        x.comeIn(0, 4, 9, 1);
        for (int bad : new int[] {-1, 12, Integer.MAX_VALUE}) failsFlat(x, INDEX, () -> x.count(bad, -1));
        for (int bad : new int[] {-1, 7}) {
            failsFlat(x, ARGUMENT, () -> x.count(0, bad));
            failsFlat(x, ARGUMENT, () -> x.count(1, bad));
        }
        failsFlat(x, STATE, () -> x.count(1, 3));
        is(2, x.count(0, 6));
        is(2, x.book(5));
        is(4, x.placeAt(0, 3));
        is(-5, x.count(0, 1));
        is(5, x.book(4));
        is(0, x.count(0, 1));
        is(-1, x.count(0, 0));
        is(-1, x.placeAt(0, 0));
        is(4, x.placeAt(0, 3));
        is(6, x.book(4));
        is(2, x.book(5));
        is(0, x.book(6));
        failsFlat(x, STATE, () -> x.count(0, 0));
        is(0, x.errors());
    }

    private static void scrapping() {
        part = "20";
        LanesAndLots x = house(3, 4, 20, 2, 1);
        x.comeIn(0, 20, 9, 1);
        for (int bad : new int[] {-1, 12}) failsFlat(x, INDEX, () -> x.scrap(bad, 0));
        for (int bad : new int[] {0, 21, -3}) failsFlat(x, ARGUMENT, () -> x.scrap(0, bad));
        failsFlat(x, STATE, () -> x.scrap(1, 1));
        is(17, x.scrap(0, 3));
        failsFlat(x, STATE, () -> x.scrap(0, 18));
        is(5, x.placeAt(0, 3));
        is(0, x.placeAt(0, 0));
        is(0, x.scrap(0, 17));
        is(-1, x.placeAt(0, 0));
        is(5, x.placeAt(0, 3));
        is(20, x.book(3));
    }

    private static void moving() {
        part = "21";
        LanesAndLots x = house(3, 4, 6, 2, 1);
        x.comeIn(0, 10, 9, 1);
        for (int bad : new int[] {-1, 12, Integer.MIN_VALUE}) {
            failsFlat(x, INDEX, () -> x.move(bad, 0));
            failsFlat(x, INDEX, () -> x.move(0, bad));
            failsFlat(x, INDEX, () -> x.move(bad, bad));
        }
        failsFlat(x, ARGUMENT, () -> x.move(0, 0));
        failsFlat(x, ARGUMENT, () -> x.move(5, 5));
        failsFlat(x, STATE, () -> x.move(5, 6));
        failsFlat(x, STATE, () -> x.move(0, 1));
        failsFlat(x, STATE, () -> x.move(5, 0));
        is(4, x.move(1, 11));
        is(-1, x.placeAt(1, 0));
        is(6, x.placeAt(1, 3));
        is(0, x.placeAt(11, 0));
        is(4, x.placeAt(11, 1));
        is(6, x.placeAt(11, 3));
        is(10, x.stock(0));
    }

    private static void ordering() {
        part = "22, 23, 25 to 27";
        LanesAndLots x = house(3, 4, 6, 2, 2);
        x.passDays(3);
        for (int bad : new int[] {-1, 8}) failsFlat(x, INDEX, () -> x.order(bad, 0, 0, 0, -1));
        for (int bad : new int[] {-1, 2}) failsFlat(x, INDEX, () -> x.order(0, bad, 0, 0, -1));
        for (int bad : new int[] {0, 51}) failsFlat(x, ARGUMENT, () -> x.order(0, 0, bad, 5, 0));
        for (int bad : new int[] {2, 2557}) failsFlat(x, ARGUMENT, () -> x.order(0, 0, 1, bad, 0));
        for (int bad : new int[] {-1, 401}) failsFlat(x, ARGUMENT, () -> x.order(0, 0, 1, 5, bad));
        is(0, x.order(7, 1, 50, 2556, 400));
        int[] want = {7, 1, 50, 0, 2556, 2956};
        for (int what = 0; what < 6; what++) is(want[what], x.orderAt(0, what));
        is(1, x.order(0, 0, 1, 3, 0));
        for (int k = 2; k < 40; k++) is(k, x.order(0, 0, 1, 3, 0));
        is(40, x.orderCount());
        failsFlat(x, STATE, () -> x.order(0, 0, 1, 3, 0));
        failsFlat(x, ARGUMENT, () -> x.order(0, 0, 51, 3, 0));
        x.comeIn(1, 4, 2556, 1);
        x.comeIn(0, 4, 3, 1);
        x.comeIn(0, 4, 4, 1);
        is(8, x.wave());
        is(2, x.lotsOf(1));
        is(2, x.lotsOf(4));
        is(4, x.lotsOf(5));
        is(0, x.lotsOf(9));
        is(1, x.orderAt(1, 3));
        is(0, x.orderAt(1, 2));
        is(0, x.cancel(1));
        is(50, x.cancel(0));
        is(0, x.cancel(0));
        is(0, x.orderAt(0, 2));
        is(1, x.orderAt(1, 3));
        for (int bad : new int[] {-1, 40, Integer.MAX_VALUE}) {
            failsFlat(x, INDEX, () -> x.cancel(bad));
            fails(INDEX, () -> x.orderAt(bad, 9));
            fails(INDEX, () -> x.lotsOf(bad));
        }
        for (int bad : new int[] {-1, 6}) fails(ARGUMENT, () -> x.orderAt(0, bad));
    }

    private static void comingBack() {
        part = "24";
        LanesAndLots x = house(1, 4, 3, 2, 1);
        x.comeIn(0, 4, 20, 1);
        x.comeIn(0, 2, 5, 1);
        x.order(1, 0, 6, 0, 0);
        x.order(2, 0, 9, 1, 0);
        is(6, x.wave());
        is(3, x.lotsOf(0));
        x.comeIn(0, 1, 6, 1);
        is(1, x.wave());
        for (int bad : new int[] {-1, 2}) failsFlat(x, INDEX, () -> x.giveBack(bad, 0));
        for (int bad : new int[] {0, 51}) failsFlat(x, ARGUMENT, () -> x.giveBack(0, bad));
        failsFlat(x, STATE, () -> x.giveBack(0, 7));
        is(0, x.giveBack(0, 1));
        is(0, x.placeAt(0, 0));
        is(3, x.placeAt(0, 3));
        is(0, x.giveBack(0, 4));
        is(3, x.placeAt(0, 1));
        is(0, x.placeAt(1, 0));
        is(1, x.placeAt(1, 1));
        is(3, x.placeAt(1, 3));
        is(1, x.placeAt(2, 0));
        is(1, x.placeAt(2, 1));
        is(2, x.lotsOf(0));
        is(0, x.orderAt(0, 2));
        is(5, x.book(2));
    }

    private static void comingBackAgain() {
        part = "24, given again counts as given latest";
        LanesAndLots x = house(3, 4, 6, 2, 1);
        x.comeIn(0, 4, 5, 1);
        x.comeIn(0, 1, 9, 1);
        x.order(0, 0, 6, 1, 0);
        x.order(0, 0, 2, 0, 0);
        is(5, x.wave());
        is(3, x.lotsOf(0));
        is(0, x.giveBack(1, 2));
        is(2, x.wave());
        is(0, x.giveBack(0, 3));
        is(3, x.lotsOf(0));
        is(1, x.lotAt(0, 5));
        is(1, x.lotAt(1, 5));

        part = "24, scrapped at once";
        LanesAndLots y = house(1, 2, 2, 1, 1);
        y.comeIn(0, 2, 3, 1);
        y.comeIn(0, 2, 9, 1);
        y.order(0, 0, 4, 0, 0);
        is(4, y.wave());
        y.passDays(3);
        is(0, y.giveBack(0, 2));
        is(1, y.lotsOf(0));
        is(0, y.giveBack(0, 1));
        y.passDays(1);
        is(1, y.giveBack(0, 1));
        is(2, y.book(3));
        is(4, y.book(2));
        is(2, y.book(6));

        part = "24, room";
        LanesAndLots z = house(1, 2, 2, 1, 1);
        z.comeIn(0, 2, 5, 1);
        z.comeIn(0, 2, 9, 1);
        z.order(0, 0, 4, 0, 0);
        is(4, z.wave());
        z.comeIn(0, 1, 9, 1);
        failsFlat(z, STATE, () -> z.giveBack(0, 3));
        is(0, z.giveBack(0, 2));
        failsFlat(z, STATE, () -> z.giveBack(0, 1));
        z.recall(0);
        is(1, z.giveBack(0, 1));
        is(1, z.giveBack(0, 1));
        failsFlat(z, STATE, () -> z.giveBack(0, 1));
    }

    private static void waves() {
        part = "28 and 32";
        LanesAndLots x = house(3, 4, 2, 2, 2);
        is(0, x.wave());
        x.comeIn(0, 3, 9, 1);
        x.comeIn(0, 3, 5, 1);
        x.comeIn(0, 2, 5, 1);
        x.comeIn(1, 2, 30, 1);
        x.order(0, 0, 2, 6, 0);
        x.order(1, 0, 4, 4, 0);
        x.order(2, 0, 1, 4, 1);
        x.order(3, 1, 1, 4, 27);
        is(7, x.wave());
        is(1, x.orderAt(3, 2));
        is(6, x.lotsOf(1));
        is(4, x.orderAt(1, 3));
        is(4, x.lotsOf(2));
        is(1, x.lotsOf(0));
        is(4, x.pickCount());
        is(2, x.placeAt(0, 3));
        is(1, x.placeAt(1, 3));
        is(1, x.placeAt(0, 1) + x.placeAt(1, 1));
        is(7, x.book(1));
        is(0, x.wave());
        is(0, x.pickCount());
        is(0, x.pickLength(0));
        is(2, x.placeAt(0, 3));

        part = "28, orders whose due day has passed";
        LanesAndLots y = house(3, 4, 2, 2, 1);
        y.order(0, 0, 3, 0, 2);
        y.passDays(5);
        y.comeIn(0, 2, 5, 1);
        is(2, y.wave());
        is(1, y.unfilled(0));
    }

    private static void proofs() {
        part = "29 to 31";
        LanesAndLots x = house(3, 4, 6, 2, 2);
        x.comeIn(0, 8, 10, 1);
        x.comeIn(0, 4, 5, 1);
        x.order(3, 0, 5, 2, 1);
        x.order(4, 0, 9, 1, 6);
        is(2, x.unfilled(0));
        is(0, x.unfilled(1));
        is(3, x.proofDay(0));
        fails(NONE_SUCH, () -> x.proofDay(1));
        is(2, x.difference(0, 0));
        is(2, x.difference(0, 3));
        is(-3, x.difference(0, 4));
        is(1, x.difference(0, 6));
        is(1, x.difference(0, 7));
        is(-8, x.difference(0, 8));
        is(-8, x.difference(0, 10));
        is(0, x.difference(0, 11));
        is(0, x.difference(0, 3000));
        x.hold(0, true);
        is(10, x.unfilled(0));
        is(10, x.difference(0, 3));
        is(9, x.difference(0, 7));
        x.cancel(0);
        is(9, x.unfilled(0));
        is(7, x.proofDay(0));
        x.hold(0, false);
        x.cancel(1);
        fails(NONE_SUCH, () -> x.proofDay(0));
        for (int bad : new int[] {-1, 2, Integer.MAX_VALUE}) {
            fails(INDEX, () -> x.unfilled(bad));
            fails(INDEX, () -> x.proofDay(bad));
            fails(INDEX, () -> x.difference(bad, -1));
        }
        for (int bad : new int[] {-1, 3001}) fails(ARGUMENT, () -> x.difference(0, bad));

        part = "30, the first of equal ones";
        LanesAndLots y = house(3, 4, 6, 2, 1);
        y.order(0, 0, 2, 9, 0);
        y.order(0, 0, 3, 2, 0);
        y.comeIn(0, 3, 4, 1);
        is(2, y.unfilled(0));
        is(2, y.difference(0, 2));
        is(2, y.difference(0, 9));
        is(2, y.proofDay(0));
    }

    private static void ways() {
        part = "33";
        LanesAndLots x = house(3, 4, 1, 2, 1);
        for (int bad : new int[] {-1, 3, Integer.MAX_VALUE}) fails(ARGUMENT, () -> x.pickLength(bad));
        x.comeIn(0, 12, 9, 1);
        x.order(0, 0, 11, 0, 0);
        is(11, x.wave());
        fails(STATE, () -> x.pickLength(2));
        fails(ARGUMENT, () -> x.pickLength(3));
        // Three lanes, to the fourth, fourth and third position; 2 * 2 * 2 across.
        is(8 + 2 * 5 + 2 * 3, x.pickLength(0));
        is(8 + 8 + 8 + 6, x.pickLength(1));

        // One place far back in each of two lanes: round by the back, or straight up and down.
        LanesAndLots y = picked(6, 8, 1, new int[] {6, 2 * 8 + 6});
        is(2, y.pickCount());
        is(4 + 2 * 9, y.pickLength(0));
        is(4 + 14 + 14, y.pickLength(1));
        is(22, y.pickLength(2));

        // Up the lane 0, by the back to a step into the lane 2, and home down the lane 1.
        LanesAndLots z = picked(3, 8, 1, new int[] {7, 8, 8 + 7, 16 + 7});
        is(4 + 2 * 9 + 2 * 8, z.pickLength(0));
        is(4 + 3 * 16, z.pickLength(1));
        is(9 + 2 + 2 + 1 + 9 + 1, z.pickLength(2));
        z.newHouse(1, 1, 1, 1);
        for (int rule = 0; rule < 3; rule++) is(0, z.pickLength(rule));

        // Ten places are not too many; here the way is through both lanes, and then it turns in both.
        LanesAndLots ten = picked(2, 8, 5, new int[] {0, 1, 2, 3, 4, 5, 6, 8, 9, 10});
        is(10, ten.pickCount());
        is(10 + 2 * 7 + 2 * 3, ten.pickLength(1));
        is(10 + 2 * 9, ten.pickLength(0));
        is(10 + 2 * 9, ten.pickLength(2));
        LanesAndLots turns = picked(2, 8, 5, new int[] {0, 1, 2, 3, 4, 8, 9, 10});
        is(10 + 2 * 5 + 2 * 3, turns.pickLength(2));
        // Nothing in the lane 0: the way still goes by its front, or through it.
        LanesAndLots far = picked(2, 8, 1, new int[] {8 + 7});
        is(2 + 16, far.pickLength(0));
        is(2 + 16, far.pickLength(1));
        is(2 + 16, far.pickLength(2));
        // A step into the lane 1 from the back, on the way from the lane 0 to the lane 2.
        LanesAndLots three = picked(3, 8, 1, new int[] {7, 8 + 7, 16 + 7});
        is(4 + 18 + 2, three.pickLength(2));
    }

    /** A house whose latest wave took one piece from each of these places. */
    private static LanesAndLots picked(int lanes, int positions, int gap, int[] goals) {
        LanesAndLots x = house(lanes, positions, 1, gap, 1);
        for (int k = goals.length - 1; k >= 0; k--) {
            int at = x.firstFree();
            x.comeIn(0, 1, 9, 1);
            if (at != goals[k]) x.move(at, goals[k]);
        }
        x.order(0, 0, 50, 0, 0);
        is(goals.length, x.wave());
        return x;
    }

    private static void boxes() {
        part = "34 to 37";
        LanesAndLots x = new LanesAndLots();
        is(0, x.boxes(1));
        is(0, x.boxBound(1));
        for (int bad : new int[] {0, 21, -7, Integer.MAX_VALUE}) failsFlat(x, ARGUMENT, () -> x.addItem(bad));
        int[] sizes = {6, 6, 4, 4, 4, 3, 3, 20};
        for (int k = 0; k < 7; k++) is(k + 1, x.addItem(sizes[k]));
        is(3, x.boxes(10));
        is(3, x.boxBound(10));
        is(2, x.boxes(15));
        is(1, x.boxes(30));
        is(2, x.boxes(29));
        is(5, x.boxBound(6));
        is(6, x.boxes(6));
        fails(ARGUMENT, () -> x.boxes(5));
        is(6, x.boxBound(5));
        for (int bad : new int[] {0, 41, -1, Integer.MIN_VALUE}) {
            fails(ARGUMENT, () -> x.boxes(bad));
            fails(ARGUMENT, () -> x.boxBound(bad));
        }
        is(8, x.addItem(sizes[7]));
        failsFlat(x, STATE, () -> x.addItem(1));
        failsFlat(x, ARGUMENT, () -> x.addItem(0));
        is(2, x.boxes(40));
        is(50, x.boxBound(1));
        is(8, x.clearItems());
        is(0, x.clearItems());
        is(0, x.boxes(1));
        for (int k = 0; k < 8; k++) x.addItem(1);
        is(1, x.boxes(8));
        is(8, x.boxes(1));
        is(3, x.boxes(3));
    }

    private static void plans() {
        part = "38 to 43";
        LanesAndLots x = new LanesAndLots();
        int[][] wants = {{-1, 0, 0, 0, 1}, {10, 0, 0, 0, 0}, {1, -1, 1, 1, 1}, {1, 10, 1, 1, 1}, {1, 1, -1, 1, 1}, {1, 1, 10, 1, 1},
            {1, 1, 1, -1, 1}, {1, 1, 1, 10, 1}, {1, 1, 1, 1, -1}, {1, 1, 1, 1, 10}, {0, 0, 0, 0, 0}};
        for (int[] w : wants) failsFlat(x, ARGUMENT, () -> x.setWants(w[0], w[1], w[2], w[3], w[4]));
        int[][] costs = {{-1, 2, 1, 9, 10}, {100, 2, 1, 9, 10}, {10, -1, 1, 9, 10}, {10, 21, 1, 60, 10}, {10, 2, -1, 9, 10},
            {10, 2, 21, 9, 10}, {10, 2, 1, 2, 10}, {10, 2, 1, 61, 10}, {10, 2, 1, 9, -1}, {10, 2, 1, 9, 21},
            {10, Integer.MAX_VALUE, 1, 9, 10}, {10, 0, 0, 0, 10}};
        for (int[] c : costs) failsFlat(x, ARGUMENT, () -> x.setCosts(c[0], c[1], c[2], c[3], c[4]));
        for (int bad : new int[] {0, 6, -1, Integer.MAX_VALUE}) {
            fails(ARGUMENT, () -> x.lowBound(bad));
            fails(ARGUMENT, () -> x.highBound(bad));
            fails(ARGUMENT, () -> x.bestAct(bad, 0));
            fails(ARGUMENT, () -> x.planCost(bad, 0, true));
        }
        for (int bad : new int[] {-21, 11, Integer.MIN_VALUE}) {
            fails(ARGUMENT, () -> x.bestAct(1, bad));
            fails(ARGUMENT, () -> x.planCost(1, bad, false));
        }
        // At the level 0 the penalty is 18 on average; to order up to 3 costs 10 + 6 + 3, so it is not cheaper.
        is(18L, x.planCost(1, 0, false));
        is(1L, x.planCost(1, 0, true));
        is(0, x.bestAct(1, 0));
        is(3, x.highBound(1));
        is(3, x.bestAct(1, -1));
        is(0, x.lowBound(1));
        is(21L, x.planCost(1, -1, false));
        // At 3: 3 + 2 + 1 + 0 held, 9 for the want 4, over 5. At 4: 4 + 3 + 2 + 1 + 0 held.
        is(3L, x.planCost(1, 3, false));
        is(1L, x.planCost(1, 3, true));
        is(2L, x.planCost(1, 4, false));
        is(6L, x.planCost(1, 2, false));
        is(10, x.bestAct(5, 10));

        is(1, x.setWants(0, 0, 1, 0, 0));
        is(10, x.setCosts(1, 1, 1, 5, 6));
        is(2, x.highBound(1));
        is(2, x.lowBound(1));
        is(2, x.bestAct(1, 1));
        is(2L, x.planCost(1, 1, false));
        is(3L, x.planCost(1, 0, false));
        is(0L, x.planCost(1, 2, false));
        is(1L, x.planCost(1, 2, true));
        is(2, x.bestAct(1, -20));
        is(23L, x.planCost(1, -20, false));
        // Two periods: each want of 2 is ordered when it comes, for 3 each time.
        is(6L, x.planCost(2, 0, false));
        is(2, x.highBound(2));
        is(3L, x.planCost(2, 2, false));
        is(15L, x.planCost(5, 0, false));
        fails(ARGUMENT, () -> x.bestAct(1, 7));
        is(6, x.bestAct(1, 6));

        is(45, x.setWants(9, 9, 9, 9, 9));
        is(6, x.setCosts(0, 0, 0, 1, 0));
        is(0, x.setCosts(99, 20, 20, 60, 20));
        is(20, x.setCosts(0, 0, 0, 60, 20));
        // Ordering is free here, so that 4 units are enough however many periods are left.
        for (int periods = 1; periods <= 5; periods++) {
            is(4, x.highBound(periods));
            is(4, x.lowBound(periods));
            is(4, x.bestAct(periods, -20));
        }
        is(20, x.setCosts(99, 0, 0, 1, 3));
        is(-20, x.lowBound(1));
        is(3, x.highBound(1));
        is(-20, x.bestAct(1, -20));
        is(22L, x.planCost(1, -20, false));
        is(2, x.setWants(1, 0, 0, 0, 1));
        is(1L, x.planCost(1, 3, false));
        is(2L, x.planCost(1, 3, true));
    }

    private static void books() {
        part = "44";
        LanesAndLots x = house(3, 4, 6, 2, 1);
        for (int bad : new int[] {-1, 7, Integer.MAX_VALUE}) fails(ARGUMENT, () -> x.book(bad));
        x.comeIn(0, 14, 5, 1);
        x.comeIn(0, 4, 9, 1);
        x.order(0, 0, 5, 0, 0);
        x.wave();
        x.giveBack(0, 2);
        x.count(0, 1);
        x.count(1, 6);
        x.scrap(1, 2);
        x.count(1, 6);
        x.passDays(6);
        x.giveBack(0, 1);
        // Scrapped: 2 by hand, the first lot's 1 + 6 + 2 when it expires, 1 that comes back after that.
        int[] want = {18, 5, 3, 12, 2, 2, 4};
        for (int what = 0; what < 7; what++) is(want[what], x.book(what));
        is(0, x.errors());
    }

    private static void undoing() {
        part = "45 and 46";
        LanesAndLots x = new LanesAndLots();
        is(0, x.actCount());
        failsFlat(x, STATE, x::undo);
        Act[] acts = {h -> h.addProduct(), h -> h.addProduct(), h -> h.comeIn(0, 9, 4, 7), h -> h.comeIn(0, 3, 30, 2),
            h -> h.order(2, 0, 6, 1, 1), h -> h.order(5, 0, 4, 0, 5), h -> h.wave(), h -> h.hold(1, true), h -> h.hold(1, true),
            h -> h.giveBack(0, 2), h -> h.cancel(1), h -> h.count(1, 4), h -> h.scrap(1, 1), h -> h.move(1, 7), h -> h.addItem(4),
            h -> h.addItem(9), h -> h.clearItems(), h -> h.clearItems(), h -> h.addItem(3), h -> h.setWants(0, 3, 0, 2, 9),
            h -> h.setCosts(3, 1, 2, 20, 12), h -> h.comeIn(1, 2, 7, 99), h -> h.order(0, 1, 1, 5, 1), h -> h.wave(), h -> h.passDays(2),
            h -> h.recall(1), h -> h.giveBack(1, 1), h -> h.passDays(30), h -> h.giveBack(0, 1), h -> h.newHouse(2, 5, 3, 4),
            h -> h.addProduct(), h -> h.addProduct(), h -> h.comeIn(1, 2, 444, 888), h -> h.order(7, 1, 44, 333, 22), h -> h.wave()};
        for (int end = 1; end <= acts.length; end++) undoFrom(acts, end);
        undoneAndDone(acts);

        part = "45, which lot was given latest is brought back too";
        LanesAndLots z = house(3, 4, 6, 2, 1);
        z.comeIn(0, 4, 5, 1);
        z.comeIn(0, 1, 9, 1);
        z.order(0, 0, 6, 1, 0);
        z.order(0, 0, 2, 0, 0);
        is(5, z.wave());
        is(0, z.giveBack(1, 2));
        is(2, z.wave());
        is(7, z.undo());
        z.giveBack(0, 1);
        is(1, z.lotsOf(0));
    }

    private interface Act { Object on(LanesAndLots x); }

    private static void undoFrom(Act[] acts, int end) {
        LanesAndLots x = new LanesAndLots();
        String[] looks = new String[end];
        for (int k = 0; k < end; k++) {
            looks[k] = Look.withoutActs(x);
            acts[k].on(x);
            is(Math.min(8, k + 1), x.actCount());
        }
        for (int left = Math.min(8, end) - 1, k = end - 1; left >= 0; left--, k--) {
            is(left, x.undo());
            is(left, x.actCount());
            is(looks[k], Look.withoutActs(x));
        }
        failsFlat(x, STATE, x::undo);
    }

    private static void undoneAndDone(Act[] acts) {
        LanesAndLots x = new LanesAndLots();
        for (Act act : acts) {
            String before = Look.withoutActs(x);
            int count = Math.min(7, x.actCount());
            Object first = act.on(x);
            is(count + 1, x.actCount());
            is(count, x.undo());
            is(before, Look.withoutActs(x));
            is(first, act.on(x));
        }
    }

    private static void measures() {
        part = "47 and 48";
        LanesAndLots x = house(3, 4, 6, 2, 1);
        is(0.0, x.meanLife());
        is(0.0f, x.givenShare());
        x.comeIn(0, 2, 5, 1);
        x.comeIn(0, 1, 6, 1);
        is(16.0 / 3.0, x.meanLife());
        x.passDays(4);
        is(4.0 / 3.0, x.meanLife());
        x.order(0, 0, 4, 4, 0);
        is(0.0f, x.givenShare());
        x.order(0, 0, 3, 9, 0);
        x.wave();
        is(0.0, x.meanLife());
        is(3.0f / 7.0f, x.givenShare());
        x.giveBack(0, 1);
        is(2.0f / 6.0f, x.givenShare());
        x.cancel(1);
        is(2.0f / 3.0f, x.givenShare());
        x.giveBack(0, 1);
        is(1.0f / 2.0f, x.givenShare());
        x.cancel(0);
        is(1.0f, x.givenShare());
    }

    private static void checksums() {
        part = "49";
        LanesAndLots x = house(1, 2, 5, 1, 1);
        is(((((31L * 17 * 31 - 1) * 31) * 31) - 1) * 31, x.checksum());
        x.passDays(3);
        x.comeIn(0, 4, 9, 1);
        x.order(0, 0, 3, 4, 0);
        x.order(0, 0, 2, 9, 1);
        x.wave();
        long c = 31L * 17 + 3;
        for (int next : new int[] {0, 1, -1, 0, 0, 3, 2, 0}) c = 31 * c + next;
        is(c, x.checksum());
        LanesAndLots y = new LanesAndLots();
        long d = 31L * 17;
        for (int place = 0; place < 12; place++) d = 31 * (31 * d - 1);
        is(d, y.checksum());
    }

    private static void secondLooks() {
        part = "50";
        LanesAndLots x = house(4, 6, 9, 3, 3);
        is(0, x.errors());
        for (int k = 0; k < 20; k++) {
            if (k < 12) x.comeIn(k % 3, 5 + k, 3 + (k * 7) % 11, k);
            x.order(k % 8, (k * 5) % 3, 3 + k % 9, (k * 3) % 8, (k * 5) % 7);
            if (k == 9) x.wave();
            if (k == 9) x.setWants(k % 4, 1, k % 3, 5, 2);
            if (k > 10) x.setCosts(k, k % 4, k % 5, 9 + k, k);
            is(0, x.errors());
        }
        x.passDays(4);
        is(0, x.errors());
    }

    public static void main(String[] args) {
        newObject();
        newHouses();
        days();
        dates();
        products();
        comingIn();
        holding();
        recalling();
        aboutLots();
        aboutPlaces();
        counting();
        scrapping();
        moving();
        ordering();
        comingBack();
        comingBackAgain();
        waves();
        proofs();
        ways();
        boxes();
        plans();
        books();
        undoing();
        measures();
        checksums();
        secondLooks();
        System.out.println("promises: " + checks + " checks, " + wrong + " answers are not as due");
        if (wrong != 0) System.exit(1);
    }
}
