import java.util.NoSuchElementException;

/** All that the calls tell about an object, as a text that two looks can be compared by. */
final class Look {
    private Look() { }

    static String at(LanesAndLots x) {
        StringBuilder s = new StringBuilder().append(x.actCount()).append(" acts, ");
        return s.append(withoutActs(x)).toString();
    }

    static String withoutActs(LanesAndLots x) {
        StringBuilder s = new StringBuilder();
        measures(x, s);
        places(x, s);
        lots(x, s);
        orders(x, s);
        products(x, s);
        plans(x, s);
        return s.toString();
    }

    private static void measures(LanesAndLots x, StringBuilder s) {
        s.append(x.today()).append(' ').append(x.checksum()).append(' ').append(x.errors());
        s.append(' ').append(x.meanLife()).append(' ').append(x.givenShare());
        s.append(' ').append(x.pickCount()).append(' ').append(x.pickLength(0)).append(' ').append(x.pickLength(1));
        if (x.pickCount() <= 10) s.append(' ').append(x.pickLength(2));
        for (int size = 20; size <= 40; size += 4) s.append(' ').append(x.boxes(size));
        s.append(' ').append(x.boxBound(1));
        for (int what = 0; what < 7; what++) s.append('/').append(x.book(what));
    }

    private static void places(LanesAndLots x, StringBuilder s) {
        for (int p = 0; p < x.placeCount(); p++) {
            for (int what = 0; what < 4; what++) s.append(',').append(x.placeAt(p, what));
        }
        try {
            s.append(" free ").append(x.firstFree());
        } catch (NoSuchElementException e) {
            s.append(" none free");
        }
    }

    private static void lots(LanesAndLots x, StringBuilder s) {
        for (int lot = 0; lot < x.lotCount(); lot++) {
            s.append(';').append(x.customersOf(lot));
            for (int what = 0; what < 6; what++) s.append(',').append(x.lotAt(lot, what));
        }
    }

    private static void orders(LanesAndLots x, StringBuilder s) {
        for (int order = 0; order < x.orderCount(); order++) {
            s.append(';').append(x.lotsOf(order));
            for (int what = 0; what < 6; what++) s.append(',').append(x.orderAt(order, what));
        }
    }

    private static void products(LanesAndLots x, StringBuilder s) {
        try {
            for (int product = 0; product < 7; product++) {
                s.append(" p ").append(x.stock(product)).append(',').append(x.stockCost(product));
                s.append(',').append(x.unfilled(product)).append(',').append(x.difference(product, x.today()));
            }
        } catch (IndexOutOfBoundsException e) {
            s.append(" no more products");
        }
    }

    private static void plans(LanesAndLots x, StringBuilder s) {
        for (int n = 1; n <= 5; n++) {
            s.append('|').append(x.lowBound(n)).append(',').append(x.highBound(n));
            s.append(',').append(x.planCost(n, -20, false)).append(',').append(x.planCost(n, 0, true));
        }
    }
}
