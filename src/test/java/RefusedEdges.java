import java.lang.reflect.InvocationTargetException;
import java.lang.reflect.Method;

/** What the acts refuse: each number a bit too small or too large, which ERROR comes first, what stays. */
final class RefusedEdges {
    private static final int LEAST = Integer.MIN_VALUE;
    private static final int MOST = Integer.MAX_VALUE;

    private RefusedEdges() {
    }

    static void all() {
        errors();
        order();
        nothingElse();
        nothingElseOfFull();
        beyondOfGround();
        beyondOfThoughts();
        beyondOfTheRest();
        anyNumbers();
    }

    // ---- Terms

    private static void errors() {
        Edges.says(Edges.TERMS, "ERRORS are answers below -1000000000: LOW is -1000000000; LOW - 1 BEYOND,"
            + " LOW - 2 NONE, LOW - 3 STATE, LOW - 4 FULL, LOW - 5 KIND.");
        KnivesGround x = Twin.full();
        Edges.is("BEYOND", x.inArea(10), -1000000001);
        Edges.is("NONE", x.trace(0), -1000000002);
        Edges.is("STATE", x.days(1), -1000000003);
        Edges.is("FULL", x.quarrel(0, 0, 0, -1), -1000000004);
        Edges.is("KIND", x.as(0, 1), -1000000005);
        for (int k = 1; k <= 5; k++) {
            Edges.is("told " + k, x.told(k), 1);
        }
    }

    private static void order() {
        Edges.says(Edges.TERMS, "Each act tells its ERRORS in the order in which they are asked;");
        KnivesGround x = Twin.full();
        Edges.is("quarrel, km and FULL", x.quarrel(70, 0, 0, -1), Due.BEYOND);
        Edges.is("quarrel, area and FULL", x.quarrel(0, 10, 0, -1), Due.BEYOND);
        Edges.is("quarrel, edge and FULL", x.quarrel(0, 0, 100, -1), Due.BEYOND);
        Edges.is("quarrel, on and FULL", x.quarrel(0, 0, 0, 9), Due.BEYOND);
        Edges.is("as, kind and KIND", x.as(0, 7), Due.BEYOND);
        Edges.is("as, quarrel and KIND", x.as(9, 1), Due.BEYOND);
        Edges.is("feed, n and FULL", x.feed(0, 9), Due.BEYOND);
        Edges.is("feed, 0 and FULL", x.feed(0, 0), Due.BEYOND);
        Edges.is("days, n and STATE", x.days(61), Due.BEYOND);
        Edges.is("days, 0 and STATE", x.days(0), Due.BEYOND);
        Edges.is("loose, n and STATE", x.loose(41), Due.BEYOND);
        Edges.is("loose, 0 and STATE", x.loose(0), Due.BEYOND);
        Edges.is("hand, n and NONE", x.hand(8, -1), Due.BEYOND);
        Edges.is("sparks, what and NONE", x.sparks(3, 2), Due.BEYOND);
        Edges.is("sparks, no SHEET and NONE", x.sparks(4, 0), Due.BEYOND);
        Edges.is("sharp, n and NONE", x.sharp(8, 61), Due.BEYOND);
        Edges.is("sheet, no SHEET and STATE", x.sheet(4, 8, -1), Due.BEYOND);
        Edges.is("sheet, bits and STATE", x.sheet(0, 12, -1), Due.BEYOND);
        Edges.is("sheet, STATE and not BEYOND of n", x.sheet(0, 8, LEAST), Due.STATE);
        Edges.is("put, no SHEET and no number", x.put(4, -1, 0), Due.BEYOND);
        Edges.is("put, missing and no number", x.put(3, 99, 0), Due.NONE);
        Edges.is("move, no SHEET and missing", x.move(3, 0, 4, 0, 1), Due.BEYOND);
        Edges.is("move, missing and unlike", x.move(3, 0, 1, 0, 1), Due.NONE);
        Edges.is("move, missing and no numbers", x.move(0, -1, 3, 0, -1), Due.NONE);
        Edges.is("move, unlike and no numbers", x.move(0, 99, 1, 99, 99), Due.KIND);
        KnivesGround none = new KnivesGround();
        Edges.is("first, n and NONE", none.first(61, 0), Due.BEYOND);
        Edges.is("first, what and NONE", none.first(0, 2), Due.BEYOND);
        Edges.is("last, what and NONE", none.last(2), Due.BEYOND);
        Edges.is("when, quarrel and not by 60", none.when(0), Due.BEYOND);
        Edges.is("told of it", x.told(1), 20);
    }

    private static void stays(String what, KnivesGround x, Twin.Call refused, int due, String alone) {
        Edges.is(what, refused.on(x), due);
        Edges.is("it is told, " + what, x.told(-1000000000 - due) > 0 ? 1 : 0, 1);
        Edges.is("nothing else changes by " + what, Twin.probe(x).equals(alone) ? 1 : 0, 1);
    }

    private static void nothingElse() {
        Edges.says(Edges.TERMS, "one that answers an ERROR changes nothing but what told() tells.");
        Object[][] refused = {{"set", 0, 10}, {"inArea", 10}, {"quarrel", 0, 0, 0, 5}, {"ofQuarrel", 0, 10},
            {"change", 0, 1, 100}, {"become", 0, 70}, {"as", 0, 7}, {"text", 2}, {"law", 2, 0, 0, 0}, {"days", 61},
            {"loose", 41}, {"then", 61, 0, 0}, {"when", 5}, {"ended", 61}, {"start", 61, 0}, {"pace", 61, 0},
            {"hand", 0, 21}, {"first", 61, 0}, {"sparks", 4, 0}, {"last", 2}, {"sharp", 0, 61}, {"off", 61},
            {"chain", 5}, {"fee", 61}, {"odds", 0, 61, 0}, {"voice", 0, 4, 0}, {"sheet", 0, 9, 1}, {"sheet", 0, 8, 41},
            {"put", 0, 5, 1}, {"move", 0, 0, 2, 1, 3}, {"edges", 4}, {"judge", 4}, {"count", 12}, {"told", 6}};
        String alone = Twin.probe(Twin.some());
        for (Object[] r : refused) {
            stays(nameOf(r), Twin.some(), x -> answer(x, (String) r[0], numbers(r)), Due.BEYOND, alone);
        }
        stays("feed of nine", Twin.some(), x -> x.feed(-1L, 9), Due.BEYOND, alone);
        Object[][] none = {{"when", 4}, {"hand", 0, 0}, {"sparks", 3, 0}, {"sparks", 1, 0}, {"sharp", 4, 1},
            {"trace", 8}, {"put", 3, 0, 0}, {"move", 0, 0, 3, 0, 1}, {"move", 3, 0, 0, 0, 1}, {"edges", 3},
            {"judge", 3}};
        for (Object[] r : none) {
            stays(nameOf(r), Twin.some(), x -> answer(x, (String) r[0], numbers(r)), Due.NONE, alone);
        }
        stays("sheet of -1", Twin.some(), x -> x.sheet(0, 8, -1), Due.STATE, alone);
        stays("as of another KIND", Twin.some(), x -> x.as(0, 1), Due.KIND, alone);
        stays("move of unlike bits", Twin.some(), x -> x.move(0, 0, 1, 0, 1), Due.KIND, alone);
        String newOne = Twin.probe(new KnivesGround());
        stays("restore of none", new KnivesGround(), x -> x.restore(), Due.NONE, newOne);
        stays("first of none", new KnivesGround(), x -> x.first(0, 0), Due.NONE, newOne);
        stays("last of none", new KnivesGround(), x -> x.last(0), Due.NONE, newOne);
    }

    private static void nothingElseOfFull() {
        String alone = Twin.probe(Twin.full());
        stays("the tenth quarrel", Twin.full(), x -> x.quarrel(11, 1, 1, 1), Due.FULL, alone);
        stays("the 51st byte", Twin.full(), x -> x.feed('e', 1), Due.FULL, alone);
        stays("the 21st number", Twin.full(), x -> x.tell(0), Due.FULL, alone);
        stays("DAY 10000", Twin.full(), x -> x.days(1), Due.STATE, alone);
        stays("DAY 10000 by draws", Twin.full(), x -> x.loose(1), Due.STATE, alone);
        KnivesGround x = Twin.full();
        Edges.is("a wrong TEXT ahead of it", x.text(2), Due.BEYOND);
        Edges.is("THE TAPE stays", Twin.probe(x).equals(alone) ? 1 : 0, 1);
    }

    // ---- calls by their names

    private static String nameOf(Object[] call) {
        StringBuilder b = new StringBuilder();
        for (Object part : call) {
            b.append(b.length() == 0 ? "" : " ").append(part);
        }
        return b.toString();
    }

    private static int[] numbers(Object[] call) {
        int[] numbers = new int[call.length - 1];
        for (int i = 0; i < numbers.length; i++) {
            numbers[i] = (Integer) call[i + 1];
        }
        return numbers;
    }

    private static int answer(KnivesGround x, String name, int... numbers) {
        for (Method method : KnivesGround.class.getMethods()) {
            if (method.getName().equals(name) && method.getParameterCount() == numbers.length) {
                Object[] given = new Object[numbers.length];
                for (int i = 0; i < given.length; i++) {
                    boolean isLong = method.getParameterTypes()[i] == long.class;
                    given[i] = isLong ? (Object) (long) numbers[i] : (Object) numbers[i];
                }
                try {
                    return (Integer) method.invoke(x, given);
                } catch (IllegalAccessException | InvocationTargetException e) {
                    throw new IllegalStateException(name, e);
                }
            }
        }
        throw new IllegalStateException("no act " + name);
    }

    /**
     * Of an act with numbers that it takes: each number is put just outside and far outside its
     * bounds (BEYOND), and just inside (not BEYOND). Bounds in twos, the least and the most.
     */
    private static void bounds(int promise, String name, int[] good, int... bounds) {
        Edges.says(promise, "BEYOND.");
        Edges.is(name + " as it should be", answer(Twin.some(), name, good) == Due.BEYOND ? 1 : 0, 0);
        for (int i = 0; i < good.length; i++) {
            int least = bounds[2 * i];
            int most = bounds[2 * i + 1];
            if (least == LEAST) {
                continue;
            }
            int[] inside = {least, most};
            int[] outside = {least - 1, most + 1, LEAST, MOST};
            for (int v : inside) {
                Edges.is(name + ", number " + i + " inside, " + v, with(name, good, i, v) == Due.BEYOND ? 1 : 0, 0);
            }
            for (int v : outside) {
                Edges.is(name + ", number " + i + " outside, " + v, with(name, good, i, v), Due.BEYOND);
            }
        }
    }

    private static int with(String name, int[] good, int place, int v) {
        int[] numbers = good.clone();
        numbers[place] = v;
        return answer(Twin.some(), name, numbers);
    }

    private static int[] of(int... numbers) {
        return numbers;
    }

    // ---- BEYOND of each promise; the five quarrels of Twin.some() are 0 to 4

    private static void beyondOfGround() {
        bounds(2, "set", of(0, 5), 0, 3, 0, 9);
        bounds(2, "set", of(1, 5), 0, 3, 0, 9);
        bounds(2, "set", of(2, 5), 0, 3, 0, 99999);
        bounds(2, "set", of(3, 5), 0, 3, 0, 99999);
        bounds(3, "inArea", of(0), 0, 9);
        bounds(4, "quarrel", of(0, 0, 0, -1), 0, 69, 0, 9, 0, 99, -1, 4);
        bounds(5, "ofQuarrel", of(0, 0), 0, 4, 0, 9);
        bounds(6, "change", of(0, 0, 1), 0, 4, 0, 3, 0, 9);
        bounds(6, "change", of(0, 1, 1), 0, 4, 0, 3, 0, 99);
        bounds(6, "change", of(0, 2, 1), 0, 4, 0, 3, 0, 1);
        bounds(6, "change", of(0, 3, 1), 0, 4, 0, 3, 0, 999);
        bounds(7, "become", of(0, 0), 0, 4, 0, 69);
        bounds(8, "as", of(0, 0), 0, 4, 0, 6);
        bounds(9, "feed", of(1, 1), LEAST, MOST, 1, 8);
        bounds(11, "law", of(0, 0, 0, 0), 0, 1, LEAST, MOST, LEAST, MOST, LEAST, MOST);
        bounds(12, "days", of(1), 1, 60);
        bounds(13, "loose", of(1), 1, 40);
    }

    private static void beyondOfThoughts() {
        bounds(14, "then", of(0, 0, 0), 0, 60, 0, 4, 0, 2);
        bounds(15, "when", of(0), 0, 4);
        bounds(16, "ended", of(0), 0, 60);
        bounds(17, "start", of(0, 0), 0, 60, 0, 1);
        bounds(18, "pace", of(0, 0), 0, 60, 0, 1);
        bounds(19, "hand", of(0, 0), 0, 4, 0, 20);
        bounds(20, "first", of(0, 0), 0, 60, 0, 1);
        bounds(21, "sparks", of(0, 0), 0, 3, 0, 1);
        bounds(22, "last", of(0), 0, 1);
        bounds(23, "sharp", of(0, 1), 0, 4, 1, 60);
        bounds(24, "off", of(0), 0, 60);
        bounds(25, "chain", of(0), 0, 4);
        bounds(26, "fee", of(0), 0, 60);
        bounds(28, "odds", of(0, 0, 0), 0, 4, 0, 60, 0, 1);
    }

    private static void beyondOfTheRest() {
        bounds(30, "voice", of(0, 0, 0), 0, 4, 0, 3, LEAST, MOST);
        bounds(41, "count", of(0), 0, 11);
        Edges.says(32, "BEYOND.");
        int[] outside = {-1, 4, LEAST, MOST};
        for (int sheet : outside) {
            Edges.is("SHEET " + sheet, Twin.some().sheet(sheet, 8, 1), Due.BEYOND);
            Edges.is("SHEET " + sheet + " missing", Twin.some().sheet(sheet, 0, 1), Due.BEYOND);
        }
        int[] bits = {-1, 1, 7, 9, 15, 17, 31, 33, LEAST, MOST};
        for (int b : bits) {
            Edges.is("bits " + b, Twin.some().sheet(0, b, 1), Due.BEYOND);
        }
        Edges.is("n 40", Twin.some().sheet(3, 8, 40), 1);
        Edges.is("n 41", Twin.some().sheet(3, 8, 41), Due.BEYOND);
        Edges.is("n far above", Twin.some().sheet(3, 8, MOST), Due.BEYOND);
    }

    /** No act may ever throw, whatever its numbers are. */
    private static void anyNumbers() {
        int[] any = {LEAST, -1000000001, -1, 0, 1, 9, 40, 100, MOST - 1, MOST};
        KnivesGround[] grounds = {Twin.some(), new KnivesGround(), Twin.full()};
        int calls = 0;
        int z = 42;
        for (Method method : KnivesGround.class.getDeclaredMethods()) {
            for (int i = 0; i < 400 && java.lang.reflect.Modifier.isPublic(method.getModifiers()); i++) {
                int[] numbers = new int[method.getParameterCount()];
                for (int j = 0; j < numbers.length; j++) {
                    z = z * 1103515245 + 12345;
                    numbers[j] = any[(z >>> 8) % any.length];
                }
                grounds[i % 3] = i % 40 < 3 ? i % 3 == 0 ? Twin.some() : i % 3 == 1 ? new KnivesGround() : Twin.full()
                    : grounds[i % 3];
                answer(grounds[i % 3], method.getName(), numbers);
                calls++;
            }
        }
        Edges.is("calls with any numbers", calls, 41 * 400);
    }
}
