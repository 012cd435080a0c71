import java.lang.reflect.InvocationTargetException;
import java.lang.reflect.Method;
import java.lang.reflect.Modifier;
import java.util.HashMap;
import java.util.Map;
import java.util.TreeMap;

/** Runs of 512 calls by draws on new objects, each answer beside that of the plain second program. */
public final class WholeRunTests {
    private static final int RUNS = 500;
    private static final int CALLS = 512;

    private static final String[] MAKES = {"quarrel", "quarrel", "quarrel", "set", "set", "change", "change", "become",
        "text", "text", "sheet", "put", "tell", "days", "loose", "edges", "image", "restore", "seed", "feed"};
    private static final String[] ASKS = {"inArea", "ofQuarrel", "as", "law", "then", "when", "ended", "start", "pace",
        "first", "sparks", "last", "sharp", "off", "chain", "fee", "free", "odds", "voice", "trace", "put", "put",
        "move", "move", "judge", "tell", "check", "count", "told", "count", "told", "ofQuarrel", "then", "when"};

    private static final Map<String, Method> ACTS = new HashMap<>();
    private static final Map<String, Integer> ERRORS = new TreeMap<>();
    private static final Draws DRAWS = new Draws(20261118);

    private WholeRunTests() {
    }

    public static void main(String[] args) {
        for (Method method : KnivesGround.class.getDeclaredMethods()) {
            if (Modifier.isPublic(method.getModifiers())) {
                ACTS.put(method.getName(), method);
            }
        }
        for (int run = 0; run < RUNS; run++) {
            oneRun(run);
        }
        eachErrorWasMet();
        Due.end();
    }

    private static void oneRun(int run) {
        KnivesGround x = new KnivesGround();
        Second second = new Second();
        int most = DRAWS.below(3) * 4 + 2;
        boolean hoards = DRAWS.once(4);
        if (DRAWS.once(8)) {
            for (int i = 0; i < 167; i++) {
                same(run, x, second, "days", i < 166 ? 60 : 30 + DRAWS.below(11));
            }
        }
        for (int call = 170; call < CALLS; call++) {
            String act = anAct(call, second.many() < most);
            act = hoards ? hoarded(act) : act;
            if (act.equals("text") && DRAWS.below(5) > 0) {
                call += readText(run, x, second);
            } else if (act.equals("sparks") && DRAWS.below(4) > 0) {
                call += tellSparks(run, x, second);
            } else if (!same(run, x, second, act, numbers(act, second))) {
                return;
            }
        }
    }

    private static String anAct(int call, boolean isYoung) {
        if (call % 100 == 99) {
            return "hand";
        }
        String[] acts = DRAWS.once(isYoung ? 2 : 4) ? MAKES : ASKS;
        String act = acts[DRAWS.below(acts.length)];
        return act.equals("quarrel") && !isYoung && DRAWS.below(4) > 0 ? "judge" : act;
    }

    /** So that now and then more bytes and numbers wait than there is room for. */
    private static String hoarded(String act) {
        return act.equals("text") ? "feed" : act.equals("check") ? "tell" : act;
    }

    /** Asks both; whether they answer alike. */
    private static boolean same(int run, KnivesGround x, Second second, String act, long... numbers) {
        Class<?>[] types = ACTS.get(act).getParameterTypes();
        Object[] given = new Object[types.length];
        StringBuilder name = new StringBuilder("run " + run + ": " + act);
        for (int i = 0; i < given.length; i++) {
            given[i] = types[i] == long.class ? (Object) numbers[i] : (Object) (int) numbers[i];
            name.append(' ').append(given[i]);
        }
        int due = second.ask(act, numbers);
        int got = due + 1;
        try {
            got = (Integer) ACTS.get(act).invoke(x, given);
        } catch (IllegalAccessException | InvocationTargetException e) {
            System.out.println(name + " threw " + e.getCause());
        }
        Due.is(name.toString(), got, due);
        if (due <= Due.BEYOND && due >= Due.KIND) {
            ERRORS.merge(act + " " + due, 1, Integer::sum);
        }
        return got == due;
    }

    // ---- calls that are made of several

    private static int readText(int run, KnivesGround x, Second second) {
        int use = DRAWS.near(0, 1);
        String text = DRAWS.text(use == 0 ? "ead" : "eam");
        if (DRAWS.once(8)) {
            int at = DRAWS.below(text.length() + 1);
            text = text.substring(0, at) + "ead19!()*<|~ ".charAt(DRAWS.below(13)) + text.substring(at);
        }
        int calls = 0;
        for (int i = 0; i < text.length() && i < 60; i += 8) {
            String part = text.substring(i, Math.min(i + 8, text.length()));
            same(run, x, second, "feed", Due.word(part), part.length());
            calls++;
        }
        same(run, x, second, "text", use);
        return calls;
    }

    /** A SHEET with EDGES as they are behind one DAY, from an AREA. */
    private static int tellSparks(int run, KnivesGround x, Second second) {
        int many = second.many();
        same(run, x, second, "sheet", 1, DRAWS.once(2) ? 8 : 16, many);
        for (int i = 0; i < many; i++) {
            same(run, x, second, "put", 1, i, second.ask("then", 1, i, 0));
        }
        same(run, x, second, "sparks", 1, DRAWS.below(2));
        return many + 1;
    }

    // ---- numbers near their bounds

    private static long[] numbers(String act, Second second) {
        int q = second.many() - 1;
        int area = DRAWS.once(2) ? DRAWS.near(0, 9) : DRAWS.below(3);
        switch (act) {
            case "set": {
                int what = DRAWS.near(0, 3);
                return of(what, what < 2 ? DRAWS.near(0, 9) : DRAWS.once(2) ? 99999 - DRAWS.near(-1, 300)
                    : DRAWS.near(0, 9000));
            }
            case "quarrel": return of(DRAWS.near(0, 69), area, DRAWS.near(0, 99),
                DRAWS.once(2) ? -1 : DRAWS.near(-1, q));
            case "ofQuarrel": return of(DRAWS.near(0, q), DRAWS.near(0, 9));
            case "change": {
                int what = DRAWS.near(0, 3);
                return of(DRAWS.near(0, q), what, DRAWS.near(0, what == 0 ? 9 : what == 1 ? 99 : what == 2 ? 1 : 999));
            }
            case "become": return of(DRAWS.near(0, q), DRAWS.near(0, 69));
            case "as": return of(DRAWS.near(0, q), DRAWS.near(0, 6));
            case "feed": return of(DRAWS.any() * 65537L, DRAWS.near(1, 8));
            case "law": return of(DRAWS.near(0, 1), DRAWS.any(), DRAWS.any(), DRAWS.any());
            case "days": return of(DRAWS.once(3) ? DRAWS.near(1, 60) : DRAWS.near(1, 3));
            case "loose": return of(DRAWS.once(3) ? DRAWS.near(1, 40) : DRAWS.near(1, 3));
            case "sheet": return of(DRAWS.near(0, 3), DRAWS.near(0, 4) * 8 % 40,
                DRAWS.once(2) ? q + 1 : DRAWS.near(0, 40));
            case "put": return of(DRAWS.near(0, 3), DRAWS.near(0, 9), DRAWS.once(3) ? DRAWS.any() : DRAWS.near(0, 99));
            case "move": return of(DRAWS.near(0, 3), DRAWS.near(0, 6), DRAWS.near(0, 3), DRAWS.near(0, 6),
                DRAWS.near(0, 6));
            case "voice": return of(DRAWS.near(0, q), DRAWS.near(0, 3), DRAWS.any());
            case "tell": return of(DRAWS.near(0, q + 1));
            case "seed": return of(DRAWS.any());
            default: return numbersOfThoughts(act, q);
        }
    }

    private static long[] numbersOfThoughts(String act, int q) {
        int n = DRAWS.once(2) ? DRAWS.near(0, 60) : DRAWS.near(0, 6);
        switch (act) {
            case "then": return of(n, DRAWS.near(0, q), DRAWS.near(0, 2));
            case "start":
            case "pace":
            case "first": return of(n, DRAWS.near(0, 1));
            case "hand": return of(DRAWS.near(0, q), DRAWS.once(2) ? DRAWS.near(0, 20) : DRAWS.near(0, 4));
            case "sparks": return of(DRAWS.near(0, 3), DRAWS.near(0, 1));
            case "sharp": return of(DRAWS.near(0, q), n);
            case "odds": return of(DRAWS.near(0, q), n, DRAWS.near(0, 1));
            case "ended":
            case "off":
            case "fee": return of(n);
            case "when":
            case "chain": return of(DRAWS.near(0, q));
            case "text":
            case "last": return of(DRAWS.near(0, 1));
            case "edges":
            case "judge": return of(DRAWS.near(0, 3));
            case "inArea":
            case "trace": return of(DRAWS.near(0, 9));
            case "count": return of(DRAWS.near(0, 11));
            case "told": return of(DRAWS.near(1, 5));
            default: return of();
        }
    }

    private static long[] of(long... numbers) {
        return numbers;
    }

    /** Else a run would tell less than it seems to. */
    private static void eachErrorWasMet() {
        String[] beyond = {"set", "inArea", "quarrel", "ofQuarrel", "change", "become", "as", "feed", "text", "law",
            "days", "loose", "then", "when", "ended", "start", "pace", "hand", "first", "sparks", "last", "sharp",
            "off", "chain", "fee", "odds", "voice", "sheet", "put", "move", "edges", "judge", "count", "told"};
        String[][] others = {{"when", "first", "sparks", "last", "sharp", "hand", "trace", "put", "move", "edges",
            "judge", "restore"}, {"days", "loose", "sheet"}, {"quarrel", "feed", "tell"}, {"as", "move"}};
        for (String act : beyond) {
            Due.is("BEYOND was met of " + act, ERRORS.containsKey(act + " " + Due.BEYOND) ? 1 : 0, 1);
        }
        for (int i = 0; i < others.length; i++) {
            for (String act : others[i]) {
                Due.is("ERROR " + (i + 2) + " was met of " + act,
                    ERRORS.containsKey(act + " " + (Due.NONE - i)) ? 1 : 0, 1);
            }
        }
    }
}
