import java.util.ArrayList;
import java.util.List;

/**
 * The whole face once more, as plainly as Java lets it be told, with the sheets as Java's own
 * arrays: what the machine throws of them is what the document asks for.
 */
final class Second {
    /** An ERROR that an act tells. */
    private static final class Refused extends RuntimeException {
        private static final long serialVersionUID = 1L;
        private final int error;

        private Refused(int error) {
            super("" + error, null, false, false);
            this.error = error;
        }
    }

    private Ring ring = new Ring();
    private String tape = "";
    private List<Integer> waiting = new ArrayList<>();
    private int z = 1;
    private Second kept;
    private int images;
    private final Object[] sheets = new Object[4];
    private String trace = "";
    private final int[] told = new int[6];

    int many() {
        return ring.all.size();
    }

    int ask(String act, long... numbers) {
        int[] v = new int[6];
        for (int i = 0; i < numbers.length; i++) {
            v[i] = (int) numbers[i];
        }
        try {
            if (act.equals("feed")) {
                return feed(numbers[0], v[1]);
            }
            return ask(act, v[0], v[1], v[2], v[3], v[4]);
        } catch (Refused refused) {
            told[Due.BEYOND - refused.error + 1]++;
            return refused.error;
        }
    }

    private int ask(String act, int a, int b, int c, int d, int e) {
        switch (act) {
            case "set": return set(a, b);
            case "inArea": return inArea(a);
            case "quarrel": return quarrel(a, b, c, d);
            case "ofQuarrel": return ofQuarrel(a, b);
            case "change": return change(a, b, c);
            case "become": return become(a, b);
            case "as": return as(a, b);
            case "text": return text(a);
            case "law": return law(a, b, c, d);
            case "days": return days(a);
            case "loose": return loose(a);
            case "seed": return seed(a);
            case "voice": return voice(a, b, c);
            case "trace": return trace(a);
            case "sheet": return sheet(a, b, c);
            case "put": return put(a, b, c);
            case "move": return move(a, b, c, d, e);
            case "edges": return edges(a);
            case "judge": return judge(a);
            case "image": return image();
            case "restore": return restore();
            case "tell": return tell(a);
            case "check": return check();
            case "count": return count(a);
            case "told": return told(a);
            default: return think(act, a, b, c);
        }
    }

    private int think(String act, int a, int b, int c) {
        switch (act) {
            case "then": return then(a, b, c);
            case "when": return when(a);
            case "ended": return behind(a).ended();
            case "start": return best(a, b, true);
            case "pace": return best(a, b, false);
            case "hand": return hand(a, b);
            case "first": return first(a, b);
            case "sparks": return sparks(a, b);
            case "last": return last(a);
            case "sharp": return sharp(a, b);
            case "off": return off(a);
            case "chain": return chain(a);
            case "fee": return behind(a).pence - ring.pence;
            case "free": return free();
            case "odds": return odds(a, b, c);
            default: throw new IllegalStateException(act);
        }
    }

    // ---- what is asked first

    private static void in(int v, int least, int most) {
        need(v >= least && v <= most, Due.BEYOND);
    }

    private static void need(boolean is, int error) {
        if (!is) {
            throw new Refused(error);
        }
    }

    private Ring.Q q(int quarrel) {
        in(quarrel, 0, many() - 1);
        return ring.all.get(quarrel);
    }

    private Ring behind(int n) {
        in(n, 0, 60);
        return ring.behind(n);
    }

    // ---- the grinder, quarrels

    private int set(int what, int v) {
        in(what, 0, 3);
        in(v, 0, what < 2 ? 9 : 99999);
        int was = count(2 + what);
        if (what == 0) {
            ring.at = v;
        } else if (what == 1) {
            ring.step = v;
        } else if (what == 2) {
            ring.harm = v;
        } else {
            ring.pence = v;
        }
        return was;
    }

    private int inArea(int area) {
        in(area, 0, 9);
        int set = 0;
        for (int i = 0; i < many(); i++) {
            set += ring.all.get(i).area == area ? 1 << i : 0;
        }
        return set;
    }

    private int quarrel(int km, int area, int edge, int on) {
        in(km, 0, 69);
        in(area, 0, 9);
        in(edge, 0, 99);
        in(on, -1, many() - 1);
        need(many() < 9, Due.FULL);
        Ring.Q q = new Ring.Q();
        q.kind = km / 10;
        q.m = km % 10;
        q.area = area;
        q.edge = edge;
        q.on = on;
        ring.all.add(q);
        return many() - 1;
    }

    private int ofQuarrel(int quarrel, int what) {
        Ring.Q q = q(quarrel);
        in(what, 0, 9);
        int[] dulls = {3, 4, 6, 1, 4, 6, 1};
        int[] of = {q.kind, q.m, q.area, q.edge, q.on, q.ended ? 1 : 0, q.age, ring.gains(q), ring.needs(q),
            dulls[q.kind]};
        return of[what];
    }

    private int change(int quarrel, int what, int v) {
        Ring.Q q = q(quarrel);
        in(what, 0, 3);
        in(v, 0, new int[] {9, 99, 1, 999}[what]);
        int was = ofQuarrel(quarrel, new int[] {2, 3, 5, 6}[what]);
        q.area = what == 0 ? v : q.area;
        q.edge = what == 1 ? v : q.edge;
        q.ended = what == 2 ? v == 1 : q.ended;
        q.age = what == 3 ? v : q.age;
        return was;
    }

    private int become(int quarrel, int km) {
        Ring.Q q = q(quarrel);
        in(km, 0, 69);
        int was = q.kind;
        q.kind = km / 10;
        q.m = km % 10;
        return was;
    }

    private int as(int quarrel, int kind) {
        Ring.Q q = q(quarrel);
        in(kind, 0, 6);
        String[] kinds = {"0", "01", "02", "03", "014", "025", "036"};
        need(kinds[q.kind].contains("" + kind), Due.KIND);
        return q.m;
    }

    // ---- texts

    private int feed(long word, int n) {
        in(n, 1, 8);
        need(tape.length() + n <= 50, Due.FULL);
        long left = word;
        for (int i = 0; i < n; i++) {
            tape += (char) (left & 255);
            left >>= 8;
        }
        return tape.length();
    }

    private int text(int use) {
        in(use, 0, 1);
        String text = tape;
        tape = "";
        String names = use == 0 ? "ead" : "eam";
        int fault = Faults.of(text, names);
        if (fault >= 0) {
            return -10 - fault;
        }
        Ring.Law law = Ring.law(text, names);
        ring.grinds = use == 0 ? law : ring.grinds;
        ring.harms = use == 1 ? law : ring.harms;
        return 1;
    }

    private int law(int use, int a, int b, int c) {
        in(use, 0, 1);
        return Ring.held((use == 0 ? ring.grinds : ring.harms).of(a, b, c));
    }

    // ---- days

    private int days(int n) {
        in(n, 1, 60);
        need(ring.day + n <= 9999, Due.STATE);
        ring = ring.behind(n);
        return ring.many();
    }

    private int loose(int n) {
        in(n, 1, 40);
        need(ring.day + n <= 9999, Due.STATE);
        for (int i = 0; i < n; i++) {
            long draw = (z * 1103515245L + 12345L) & 0xffffffffL;
            z = (int) draw;
            ring.step = (int) (draw / 256 % 10);
            ring.day(true);
        }
        return ring.many();
    }

    // ---- what would be

    private int then(int n, int quarrel, int what) {
        q(quarrel);
        in(what, 0, 2);
        Ring.Q then = behind(n).all.get(quarrel);
        return what == 0 ? then.edge : what == 1 ? then.ended ? 1 : 0 : then.age;
    }

    private int when(int quarrel) {
        q(quarrel);
        Ring then = ring.copy();
        for (int n = 0; n <= 60; n++) {
            if (then.hasEnded(quarrel)) {
                return n;
            }
            then = then.behind(1);
        }
        throw new Refused(Due.NONE);
    }

    private int best(int n, int what, boolean byArea) {
        behind(n);
        in(what, 0, 1);
        int best = 0;
        int most = 0;
        for (int i = 9; i >= 0; i--) {
            int many = (byArea ? ring.startingAt(i) : ring.stepping(i)).behind(n).many();
            best = many >= most ? i : best;
            most = Math.max(many, most);
        }
        return what == 0 ? best : most;
    }

    private int hand(int quarrel, int n) {
        q(quarrel);
        in(n, 0, 20);
        for (int many = 0; many <= many(); many++) {
            for (int set = 0; set < 1 << many(); set++) {
                if (Integer.bitCount(set) == many && (set & ring.ended()) == 0) {
                    Ring with = ring.copy();
                    for (int i = 0; i < many(); i++) {
                        with.all.get(i).edge = (set >> i & 1) == 1 ? 99 : with.all.get(i).edge;
                    }
                    if (with.behind(n).hasEnded(quarrel)) {
                        return set;
                    }
                }
            }
        }
        throw new Refused(Due.NONE);
    }

    private int first(int n, int what) {
        behind(n);
        in(what, 0, 1);
        need(many() > 0, Due.NONE);
        int best = 0;
        int least = Integer.MAX_VALUE;
        for (int i = many() - 1; i >= 0; i--) {
            Ring without = ring.copy();
            without.all.get(i).ended = true;
            int harm = without.behind(n).harm;
            best = harm <= least ? i : best;
            least = Math.min(harm, least);
        }
        return what == 0 ? best : least - ring.harm;
    }

    private int sparks(int sheet, int what) {
        in(sheet, 0, 3);
        in(what, 0, 1);
        need(sheets[sheet] != null && row(sheet).length == many(), Due.NONE);
        int set = 0;
        for (int area = 0; area < 10; area++) {
            boolean so = true;
            Ring then = ring.startingAt(area).behind(1);
            for (int i = 0; i < many(); i++) {
                so &= then.all.get(i).edge == row(sheet)[i];
            }
            set += so ? 1 << area : 0;
        }
        return what == 0 ? set : Integer.bitCount(set);
    }

    private int last(int what) {
        in(what, 0, 1);
        Ring then = ring;
        int which = -1;
        int day = 0;
        for (int n = 1; n <= 60; n++) {
            Ring later = then.behind(1);
            for (int i = 0; i < many(); i++) {
                if (later.hasEnded(i) && !then.hasEnded(i)) {
                    which = i;
                    day = n;
                }
            }
            then = later;
        }
        need(which >= 0, Due.NONE);
        return what == 0 ? which : day;
    }

    private int sharp(int quarrel, int n) {
        q(quarrel);
        in(n, 1, 60);
        int sharp = Due.NONE;
        for (int edge = 99; edge >= 0; edge--) {
            Ring with = ring.copy();
            with.all.get(quarrel).edge = edge;
            sharp = with.behind(n).hasEnded(quarrel) ? edge : sharp;
        }
        need(sharp >= 0, Due.NONE);
        return sharp;
    }

    private int off(int n) {
        int harm = behind(n).harm;
        if (n == 0) {
            return 0;
        }
        Ring rested = ring.copy();
        rested.day(false);
        return rested.behind(n - 1).harm - harm;
    }

    private int chain(int quarrel) {
        q(quarrel);
        int set = 0;
        for (int i = 0; i < many(); i++) {
            boolean hangs = false;
            for (int on = ring.all.get(i).on; on >= 0; on = ring.all.get(on).on) {
                hangs |= on == quarrel;
            }
            set += hangs && !ring.hasEnded(i) ? 1 << i : 0;
        }
        return set;
    }

    private int free() {
        int set = 0;
        for (int i = 0; i < many(); i++) {
            int on = ring.all.get(i).on;
            set += !ring.hasEnded(i) && (on < 0 || ring.hasEnded(on)) ? 1 << i : 0;
        }
        return set;
    }

    private int odds(int quarrel, int n, int part) {
        q(quarrel);
        in(part, 0, 1);
        int good = 0;
        for (int area = 0; area < 10; area++) {
            in(n, 0, 60);
            good += ring.startingAt(area).behind(n).hasEnded(quarrel) ? 1 : 0;
        }
        int[] above = {0, 1, 1, 3, 2, 1, 3, 7, 4, 9, 1};
        int[] below = {1, 10, 5, 10, 5, 2, 5, 10, 5, 10, 1};
        return part == 0 ? above[good] : below[good];
    }

    // ---- draws, voices, sheets, images, what is told

    private int seed(int v) {
        int was = z;
        z = v;
        return was;
    }

    private int voice(int quarrel, int act, int x) {
        Ring.Q q = q(quarrel);
        in(act, 0, 3);
        Bodies bodies = Bodies.of(q.kind, quarrel, q.m);
        int voice = bodies.act(act, x);
        trace = bodies.trace.toString();
        return voice;
    }

    private int trace(int i) {
        need(i >= 0 && i < trace.length(), Due.NONE);
        return trace.charAt(i);
    }

    private int sheet(int sheet, int bits, int n) {
        in(sheet, 0, 3);
        need(bits == 0 || bits == 8 || bits == 16 || bits == 32, Due.BEYOND);
        try {
            need(bits == 0 || n <= 40, Due.BEYOND);
            sheets[sheet] = bits == 8 ? new byte[n] : bits == 16 ? new short[n]
                : bits == 32 ? (Object) new int[n] : null;
            return 1;
        } catch (NegativeArraySizeException e) {
            throw new Refused(Due.STATE);
        }
    }

    /** The numbers of a SHEET as ints. */
    private int[] row(int sheet) {
        in(sheet, 0, 3);
        need(sheets[sheet] != null, Due.NONE);
        int[] row = new int[java.lang.reflect.Array.getLength(sheets[sheet])];
        for (int i = 0; i < row.length; i++) {
            row[i] = java.lang.reflect.Array.getInt(sheets[sheet], i);
        }
        return row;
    }

    private int put(int sheet, int i, int v) {
        in(i, 0, row(sheet).length - 1);
        if (sheets[sheet] instanceof byte[]) {
            ((byte[]) sheets[sheet])[i] = (byte) v;
        } else if (sheets[sheet] instanceof short[]) {
            ((short[]) sheets[sheet])[i] = (short) v;
        } else {
            ((int[]) sheets[sheet])[i] = v;
        }
        return 1;
    }

    private int move(int sheet, int i, int other, int j, int n) {
        in(sheet, 0, 3);
        in(other, 0, 3);
        try {
            System.arraycopy(sheets[sheet], i, sheets[other], j, n);
            return n;
        } catch (NullPointerException e) {
            throw new Refused(Due.NONE);
        } catch (ArrayStoreException e) {
            throw new Refused(Due.KIND);
        } catch (IndexOutOfBoundsException e) {
            throw new Refused(Due.BEYOND);
        }
    }

    private int edges(int sheet) {
        int done = 0;
        for (int number : row(sheet)) {
            if (number < 0 || number > 99 || done == many()) {
                return done;
            }
            ring.all.get(done).edge = number;
            done++;
        }
        return done;
    }

    private int judge(int sheet) {
        int[] row = row(sheet);
        for (int i = 0; i < row.length || i < many(); i++) {
            if (i == row.length || i == many() || row[i] != ring.all.get(i).age) {
                return i;
            }
        }
        return -1;
    }

    private int image() {
        kept = new Second();
        kept.take(this);
        images++;
        return images;
    }

    private int restore() {
        need(kept != null, Due.NONE);
        take(kept);
        return ring.day;
    }

    private void take(Second other) {
        ring = other.ring.copy();
        tape = other.tape;
        waiting = new ArrayList<>(other.waiting);
        z = other.z;
    }

    private int tell(int v) {
        need(waiting.size() < 20, Due.FULL);
        waiting.add(v);
        return waiting.size();
    }

    private int check() {
        List<Integer> due = new ArrayList<>();
        for (int i = 0; i < waiting.size(); i++) {
            due.add(ring.behind(i + 1).many());
        }
        int wrong = 0;
        for (int i = due.size() - 1; i >= 0; i--) {
            wrong = due.get(i).equals(waiting.get(i)) ? wrong : 1 + i;
        }
        waiting.clear();
        return wrong;
    }

    private int count(int what) {
        in(what, 0, 11);
        int edges = 0;
        for (Ring.Q q : ring.all) {
            edges += q.edge;
        }
        int[] counts = {many(), ring.day, ring.at, ring.step, ring.harm, ring.pence, ring.ended(), edges,
            tape.length(), waiting.size(), trace.length(), z};
        return counts[what];
    }

    private int told(int k) {
        in(k, 1, 5);
        return told[k];
    }
}
