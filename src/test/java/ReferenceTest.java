import java.lang.reflect.InvocationTargetException;
import java.lang.reflect.Method;
import java.util.ArrayList;
import java.util.List;
import java.util.TreeMap;
import java.util.function.IntPredicate;

/** Long runs of calls on the program and on the slow house: every answer must be the same. */
public final class ReferenceTest {
    private static final TreeMap<String, Method> FACE = new TreeMap<>();
    private static final TreeMap<String, Method> SLOW = new TreeMap<>();
    private static final TreeMap<String, Integer> MET = new TreeMap<>();
    private static final TreeMap<String, String[]> SHAPES = new TreeMap<>();
    private static int wrong = 0;
    private static int calls = 0;

    private long seed;
    private LanesAndLots fast;
    private SlowHouse slow;
    private int spread;
    private int products;
    private final List<String> told = new ArrayList<>();

    /** What the arguments of a call mean; acts that should come often stand several times in the mix. */
    private static void shapes() {
        String[] rows = {
            "newHouse lanes positions room gap", "passDays days", "today", "dayOf year month dayOfMonth", "dateOf day",
            "addProduct", "comeIn product pieces last cost", "hold lot flag", "recall lot", "lotAt lot six", "lotCount",
            "stock product", "stockCost product", "customersOf lot", "placeCount", "placeAt place four", "firstFree",
            "count taken found", "scrap taken few", "move taken untaken", "order customer product some last life",
            "cancel order", "giveBack giver back", "orderAt order six", "lotsOf order", "orderCount", "wave",
            "unfilled product", "proofDay product", "difference product near", "pickCount", "pickLength three",
            "addItem size", "clearItems", "boxes box", "boxBound box", "setWants weight weight weight weight weight",
            "setCosts ten unit unit penalty cap", "lowBound periods", "highBound periods", "bestAct periods level",
            "planCost periods level flag", "book seven", "undo", "actCount", "meanLife", "givenShare", "checksum", "errors"};
        for (String row : rows) {
            String[] words = row.split(" ");
            SHAPES.put(words[0], java.util.Arrays.copyOfRange(words, 1, words.length));
        }
    }

    private static final String[] MIX = (
        "comeIn comeIn comeIn comeIn comeIn comeIn order order order order order order order wave wave giveBack giveBack giveBack giveBack "
        + "giveBack count count scrap move move hold hold hold cancel passDays passDays undo undo addProduct addItem addItem setWants setCosts "
        + "unfilled proofDay difference pickLength pickLength lotAt placeAt orderAt boxes boxBound bestAct planCost checksum firstFree").split(" ");

    private int pick(int n) {
        seed = seed * 6364136223846793005L + 1442695040888963407L;
        return (int) ((seed >>> 33) % n);
    }

    private int from(int least, int most) { return least + pick(most - least + 1); }

    /** A number in the range, or once in a while just beside it or far away. */
    private int near(int least, int most) {
        int odd = pick(60);
        if (odd == 0) return least - 1;
        if (odd == 1) return most + 1;
        if (odd == 2) return new int[] {Integer.MIN_VALUE, Integer.MAX_VALUE, -1, 1000000}[pick(4)];
        if (odd == 3) return least;
        if (odd == 4) return most;
        return from(least, Math.max(least, most));
    }

    /** Mostly the next number that is liked, so that acts are possible more often. */
    private int favourite(int number, int size, IntPredicate liked) {
        if (number < 0 || number >= size || pick(6) == 0) return number;
        for (int k = 0; k < size; k++) if (liked.test((number + k) % size)) return (number + k) % size;
        return number;
    }

    private int argument(String kind) {
        switch (kind) {
            case "lanes": return near(1, 6);
            case "positions": return near(1, 8);
            case "room": return near(1, 20);
            case "gap": return near(1, 5);
            case "days": return pick(12) == 0 ? near(1, 400) : near(1, 4);
            case "year": return near(2024, 2030);
            case "month": return near(1, 12);
            case "dayOfMonth": return pick(2) == 0 ? near(28, 31) : near(1, 31);
            case "day": return near(0, 2556);
            case "near": return pick(4) == 0 ? near(0, 3000) : near(fast.today(), fast.today() + spread);
            case "product": return near(0, products - 1);
            case "pieces": return pick(3) == 0 ? near(1, 100) : near(1, 16);
            case "last": return pick(20) == 0 ? near(fast.today(), 2556) : near(fast.today(), fast.today() + spread);
            case "cost": return near(0, 9999);
            case "lot": return near(0, fast.lotCount() - 1);
            case "six": return near(0, 5);
            case "four": return near(0, 3);
            case "three": return near(0, 2);
            case "seven": return near(0, 6);
            case "place": return near(0, fast.placeCount() - 1);
            case "found": return near(0, pick(2) == 0 ? 6 : 20);
            case "few": return pick(6) == 0 ? near(1, 50) : near(1, 6);
            case "customer": return near(0, 7);
            case "some": return pick(3) == 0 ? near(1, 50) : near(1, 12);
            case "life": return pick(20) == 0 ? near(0, 400) : near(0, spread / 2);
            case "order": return near(0, fast.orderCount() - 1);
            case "back": return pick(6) == 0 ? near(1, 50) : near(1, 4);
            case "giver": return favourite(near(0, fast.orderCount() - 1), fast.orderCount(), o -> fast.orderAt(o, 3) > 0);
            case "taken": return favourite(near(0, fast.placeCount() - 1), fast.placeCount(), p -> fast.placeAt(p, 1) > 0);
            case "untaken": return favourite(near(0, fast.placeCount() - 1), fast.placeCount(), p -> fast.placeAt(p, 1) == 0);
            case "size": return near(1, 20);
            case "box": return near(1, 40);
            case "weight": return pick(3) == 0 ? 0 : near(0, 9);
            case "ten": return pick(4) == 0 ? near(0, 99) : near(0, 12);
            case "unit": return pick(3) == 0 ? near(0, 20) : near(0, 4);
            case "penalty": return near(1, 60);
            case "cap": return near(0, 20);
            case "periods": return near(1, 5);
            case "level": return pick(2) == 0 ? near(-20, 20) : near(-4, 10);
            default: return pick(2);
        }
    }

    private String answer(Method method, Object on, Object[] arguments) {
        try {
            return String.valueOf(method.invoke(on, arguments));
        } catch (InvocationTargetException e) {
            return "throws." + e.getCause().getClass().getSimpleName();
        } catch (IllegalAccessException e) {
            throw new AssertionError(e);
        }
    }

    private String both(String name, int... numbers) {
        Object[] arguments = new Object[numbers.length];
        for (int k = 0; k < numbers.length; k++) {
            boolean flag = SHAPES.get(name)[k].equals("flag");
            arguments[k] = flag ? (Object) (numbers[k] == 1) : (Object) numbers[k];
        }
        String want = answer(SLOW.get(name), slow, arguments);
        String got = answer(FACE.get(name), fast, arguments);
        calls++;
        String call = name + java.util.Arrays.toString(arguments);
        MET.merge(name + (want.startsWith("throws.") ? " " + want : ""), 1, Integer::sum);
        told.add(call + " = " + got);
        if (!got.equals(want)) {
            wrong++;
            if (wrong <= 5) {
                System.out.println(call + " answered " + got + ", due is " + want + "; before it:");
                for (int k = Math.max(0, told.size() - 40); k < told.size(); k++) System.out.println("  " + told.get(k));
            }
        }
        return want;
    }

    private void step(String name) {
        String[] kinds = SHAPES.get(name);
        int[] numbers = new int[kinds.length];
        for (int k = 0; k < kinds.length; k++) numbers[k] = argument(kinds[k]);
        both(name, numbers);
        countProducts();
        both("checksum");
    }

    private void busyDay() {
        for (int k = from(2, 8); k > 0; k--) step("comeIn");
        for (int k = from(2, 10); k > 0; k--) step("order");
        step("wave");
        for (int rule = 0; rule < 3; rule++) both("pickLength", rule);
        for (int k = from(0, 6); k > 0; k--) step("giveBack");
    }

    /** Goes far towards the last day, where days can no longer pass. */
    private void bigDays() {
        for (int k = 0; k < 7; k++) both("passDays", from(300, 400));
        both("undo");
    }

    private void countProducts() {
        products = 0;
        while (products < 6 && !answer(SLOW.get("stock"), slow, new Object[] {products}).startsWith("throws.")) products++;
    }

    private void sweep(boolean plans) {
        for (String name : SHAPES.keySet()) {
            String[] kinds = SHAPES.get(name);
            if (kinds.length == 0 && !isAct(name)) both(name);
        }
        for (int lot = 0; lot < fast.lotCount(); lot++) {
            both("customersOf", lot);
            for (int what = 0; what < 6; what++) both("lotAt", lot, what);
        }
        for (int place = 0; place < fast.placeCount(); place++) for (int what = 0; what < 4; what++) both("placeAt", place, what);
        for (int order = 0; order < fast.orderCount(); order++) {
            both("lotsOf", order);
            for (int what = 0; what < 6; what++) both("orderAt", order, what);
        }
        for (int product = 0; product < products; product++) {
            for (String name : new String[] {"stock", "stockCost", "unfilled", "proofDay"}) both(name, product);
            for (int day = 0; day < 4; day++) both("difference", product, fast.today() + pick(spread + 1));
        }
        for (int rule = 0; rule < 3; rule++) both("pickLength", rule);
        for (int what = 0; what < 7; what++) both("book", what);
        for (int size = 1; size <= 40; size += 3) {
            both("boxes", size);
            both("boxBound", size);
        }
        for (int periods = 1; plans && periods <= 5; periods++) {
            both("lowBound", periods);
            both("highBound", periods);
            for (int level = -20; level <= 20; level++) {
                both("bestAct", periods, level);
                both("planCost", periods, level, 0);
                both("planCost", periods, level, 1);
            }
        }
    }

    private static boolean isAct(String name) {
        return List.of("addProduct", "wave", "clearItems", "undo").contains(name);
    }

    private void run(long number) {
        seed = number * 7919 + 17;
        fast = new LanesAndLots();
        slow = new SlowHouse();
        told.clear();
        spread = from(2, 40);
        countProducts();
        if (pick(3) > 0) step("newHouse");
        int kinds = from(1, 3);
        for (int k = 0; k < kinds; k++) step("addProduct");
        if (number % 3 > 0) busyDay();
        List<String> names = new ArrayList<>(SHAPES.keySet());
        for (int k = 0; k < 220; k++) {
            int die = pick(300);
            if (die == 0) step("newHouse");
            else if (die == 1) bigDays();
            else if (die < 4) step("recall");
            else if (die < 6) step("clearItems");
            else if (die < 9) busyDay();
            else if (die < 30) step(names.get(pick(names.size())));
            else step(MIX[pick(MIX.length)]);
            if (k % 40 == 39) sweep(k == 199 && number % 4 == 0);
        }
    }

    /** Planning alone, for many terms. */
    private void plans(long number) {
        seed = number * 104729 + 5;
        fast = new LanesAndLots();
        slow = new SlowHouse();
        told.clear();
        spread = 1;
        step("setWants");
        step("setCosts");
        for (int periods = 1; periods <= 5; periods++) {
            both("lowBound", periods);
            both("highBound", periods);
            for (int level = -20; level <= 20; level++) both("bestAct", periods, level);
            int level = from(-20, 0);
            both("planCost", periods, level, 0);
            both("planCost", periods, level, 1);
        }
        both("errors");
    }

    public static void main(String[] args) {
        int runs = args.length > 0 ? Integer.parseInt(args[0]) : 150;
        shapes();
        for (Method m : LanesAndLots.class.getDeclaredMethods()) FACE.put(m.getName(), m);
        for (Method m : SlowHouse.class.getDeclaredMethods()) if (SHAPES.containsKey(m.getName())) SLOW.put(m.getName(), m);
        for (int k = 0; k < runs; k++) new ReferenceTest().run(k);
        for (int k = 0; k < runs; k++) new ReferenceTest().plans(k);
        if (args.length > 1) System.out.println(MET);
        System.out.println("reference: " + calls + " calls, " + wrong + " answers are not as due");
        if (wrong != 0) System.exit(1);
    }
}
