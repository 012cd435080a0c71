import java.util.ArrayList;
import java.util.List;

/** Many runs beside a plain second program, which shares nothing with the first: promises 5, 11 to 28, 40. */
public final class OracleTests {
    private static int z = 20261118;

    public static void main(String[] args) {
        for (int run = 0; run < 100; run++) {
            oneRun(run);
        }
        Due.end();
    }

    private static int below(int n) {
        z = z * 1103515245 + 12345;
        return (z >>> 8) % n;
    }

    // ---- the second program

    private static final class Q {
        int kind;
        int m;
        int area;
        int edge;
        int on;
        int age;
        boolean ended;

        Q copy() {
            Q q = new Q();
            q.kind = kind;
            q.m = m;
            q.area = area;
            q.edge = edge;
            q.on = on;
            q.age = age;
            q.ended = ended;
            return q;
        }
    }

    private static final class Ring {
        final List<Q> all = new ArrayList<>();
        String grinds = "20";
        String harms = "9-e/11";
        int at;
        int step = 1;
        int day;
        int harm;
        int pence;

        Ring copy() {
            Ring r = new Ring();
            for (Q q : all) {
                r.all.add(q.copy());
            }
            r.grinds = grinds;
            r.harms = harms;
            r.at = at;
            r.step = step;
            r.day = day;
            r.harm = harm;
            r.pence = pence;
            return r;
        }

        Ring behind(int n) {
            Ring r = copy();
            for (int i = 0; i < n; i++) {
                r.day(true);
            }
            return r;
        }

        void day(boolean grinding) {
            for (Q q : all) {
                if (grinding && q.area == at && !q.ended) {
                    q.edge = Math.min(99, q.edge + gains(q));
                    pence = Math.min(99999, pence + 3);
                }
            }
            for (Q q : all) {
                boolean free = q.on == -1 || all.get(q.on).ended;
                if (!q.ended && free && q.edge >= needs(q)) {
                    q.ended = true;
                } else if (!q.ended) {
                    harm = Math.min(99999, harm + held(value(harms, "eam", q.edge, q.age, q.m)));
                    q.edge = Math.max(0, q.edge - new int[] {3, 4, 6, 1, 4, 6, 1}[q.kind]);
                    q.age = Math.min(999, q.age + 1);
                }
            }
            at = (at + step) % 10;
            day++;
        }

        int gains(Q q) {
            int v = held(value(grinds, "ead", q.edge, q.age, day % 7));
            int asGrudge = v + q.m;
            int[] gains = {v, asGrudge, v + v, v >> 1, Math.max(0, asGrudge - q.age / 10),
                day % 6 == 0 ? 0 : v + v, 0};
            return gains[q.kind];
        }

        int needs(Q q) {
            int[] needs = {50, 50 + q.m + q.m, 30, 80, 55 + q.m + q.m, 30 + q.m, 80 - q.m};
            return needs[q.kind];
        }

        int ended() {
            int set = 0;
            for (int i = 0; i < all.size(); i++) {
                set += all.get(i).ended ? 1 << i : 0;
            }
            return set;
        }

        int many() {
            return Integer.bitCount(ended());
        }

        boolean hasEnded(int q) {
            return all.get(q).ended;
        }

        Ring startingAt(int area) {
            Ring r = copy();
            r.at = area;
            return r;
        }

        Ring stepping(int by) {
            Ring r = copy();
            r.step = by;
            return r;
        }
    }

    private static int held(int v) {
        return v < 0 ? 0 : v > 99 ? 99 : v;
    }

    /** Works a text out from its signs: split at the last sign of the loosest level. */
    private static int value(String text, String names, int a, int b, int c) {
        for (String level : new String[] {"|", "&", "<=>", "+-", "*/%"}) {
            int depth = 0;
            for (int i = text.length() - 1; i >= 0; i--) {
                char sign = text.charAt(i);
                depth += sign == ')' ? 1 : sign == '(' ? -1 : 0;
                if (depth == 0 && level.indexOf(sign) >= 0) {
                    return join(sign, value(text.substring(0, i), names, a, b, c),
                        value(text.substring(i + 1), names, a, b, c));
                }
            }
        }
        char first = text.charAt(0);
        if (first == '!') {
            return value(text.substring(1), names, a, b, c) == 0 ? 1 : 0;
        }
        if (first == '(') {
            return value(text.substring(1, text.length() - 1), names, a, b, c);
        }
        int name = names.indexOf(first);
        return name == 0 ? a : name == 1 ? b : name == 2 ? c : Integer.parseInt(text);
    }

    private static int join(char sign, int x, int y) {
        switch (sign) {
            case '|': return x == 0 && y == 0 ? 0 : 1;
            case '&': return x == 0 || y == 0 ? 0 : 1;
            case '<': return x < y ? 1 : 0;
            case '=': return x == y ? 1 : 0;
            case '>': return x > y ? 1 : 0;
            case '+': return x + y;
            case '-': return x - y;
            case '*': return x * y;
            case '/': return y == 0 ? 0 : x / y;
            default: return y == 0 ? 0 : x % y;
        }
    }

    // ---- texts by draws

    private static String anyText(int depth, String names) {
        int left = below(10);
        if (depth >= 3 || left < 3) {
            return below(3) == 0 ? "" + below(below(4) == 0 ? 10000 : 70) : "" + names.charAt(below(3));
        }
        if (left == 3) {
            return "!(" + anyText(depth + 1, names) + ")";
        }
        if (left == 4) {
            return "(" + anyText(depth + 1, names) + ")";
        }
        char sign = "|&<=>+-*/%+-*/%+".charAt(below(16));
        return side(depth, names, sign) + sign + side(depth, names, sign);
    }

    private static String side(int depth, String names, char sign) {
        String side = anyText(depth + 1, names);
        return "<=>".indexOf(sign) >= 0 && side.matches(".*[<=>|&].*") ? "(" + side + ")" : side;
    }

    // ---- runs

    private static void oneRun(int run) {
        KnivesGround x = new KnivesGround();
        Ring r = new Ring();
        int many = below(10);
        for (int i = 0; i < many; i++) {
            addOne(x, r, i);
        }
        r.step = below(10);
        x.set(1, r.step);
        r.at = below(10);
        x.set(0, r.at);
        r.harm = below(4) == 0 ? 99999 - below(300) : below(1000);
        x.set(2, r.harm);
        r.pence = below(4) == 0 ? 99999 - below(100) : below(1000);
        x.set(3, r.pence);
        anyTexts(x, r);
        for (int part = 0; part < 3; part++) {
            String name = "run " + run + " part " + part + " ";
            askThoughts(name, x, r);
            askOfEach(name, x, r);
            goOn(name, x, r);
        }
    }

    private static void addOne(KnivesGround x, Ring r, int i) {
        Q q = new Q();
        q.kind = below(7);
        q.m = below(10);
        q.area = below(3) == 0 ? below(10) : below(3);
        q.edge = below(100);
        q.on = below(2) == 0 ? -1 : below(i + 1) - 1;
        q.age = below(5) == 0 ? below(1000) : 0;
        q.ended = below(6) == 0;
        x.quarrel(10 * q.kind + q.m, q.area, q.edge, q.on);
        x.change(i, 3, q.age);
        x.change(i, 2, q.ended ? 1 : 0);
        r.all.add(q);
    }

    private static void anyTexts(KnivesGround x, Ring r) {
        String grinds = anyText(0, "ead");
        String harms = anyText(0, "eam");
        if (grinds.length() <= 50 && below(4) != 0 && Due.text(x, 0, grinds) == 1) {
            r.grinds = grinds;
        }
        if (x.count(8) == 0 && harms.length() <= 50 && below(4) != 0 && Due.text(x, 1, harms) == 1) {
            r.harms = harms;
        }
        for (int i = 0; i < 10; i++) {
            int a = below(2000) - 1000;
            int b = below(2000) - 1000;
            int c = below(20) - 10;
            Due.is(r.grinds + " of " + a + " " + b + " " + c, x.law(0, a, b, c), held(value(r.grinds, "ead", a, b, c)));
            Due.is(r.harms + " of " + a + " " + b + " " + c, x.law(1, a, b, c), held(value(r.harms, "eam", a, b, c)));
        }
    }

    private static void askThoughts(String name, KnivesGround x, Ring r) {
        int n = below(61);
        name = name + "n " + n + " ";
        Due.is(name + "ended", x.ended(n), r.behind(n).ended());
        Due.is(name + "fee", x.fee(n), r.behind(n).pence - r.pence);
        int area = 0;
        int step = 0;
        for (int i = 9; i >= 0; i--) {
            area = r.startingAt(i).behind(n).many() >= r.startingAt(area).behind(n).many() ? i : area;
            step = r.stepping(i).behind(n).many() >= r.stepping(step).behind(n).many() ? i : step;
        }
        Due.is(name + "start", x.start(n, 0), area);
        Due.is(name + "start many", x.start(n, 1), r.startingAt(area).behind(n).many());
        Due.is(name + "pace", x.pace(n, 0), step);
        Due.is(name + "pace many", x.pace(n, 1), r.stepping(step).behind(n).many());
        Ring rested = r.copy();
        if (n > 0) {
            rested.day(false);
            rested = rested.behind(n - 1);
        }
        Due.is(name + "off", x.off(n), rested.harm - r.behind(n).harm);
        askFirst(name, x, r, n);
        askLast(name, x, r);
        askSparks(name, x, r);
        int free = 0;
        for (int i = 0; i < r.all.size(); i++) {
            Q q = r.all.get(i);
            free += !q.ended && (q.on < 0 || r.all.get(q.on).ended) ? 1 << i : 0;
        }
        Due.is(name + "free", x.free(), free);
    }

    private static void askFirst(String name, KnivesGround x, Ring r, int n) {
        int best = -1;
        int least = Integer.MAX_VALUE;
        for (int i = 0; i < r.all.size(); i++) {
            Ring without = r.copy();
            without.all.get(i).ended = true;
            int harm = without.behind(n).harm;
            if (harm < least) {
                least = harm;
                best = i;
            }
        }
        Due.is(name + "first", x.first(n, 0), best < 0 ? Due.NONE : best);
        Due.is(name + "first harm", x.first(n, 1), best < 0 ? Due.NONE : least - r.harm);
    }

    private static void askLast(String name, KnivesGround x, Ring r) {
        int which = Due.NONE;
        int day = Due.NONE;
        for (int n = 1; n <= 60; n++) {
            int fresh = r.behind(n).ended() & ~r.behind(n - 1).ended();
            if (fresh != 0) {
                which = 31 - Integer.numberOfLeadingZeros(fresh);
                day = n;
            }
        }
        Due.is(name + "last", x.last(0), which);
        Due.is(name + "last day", x.last(1), day);
    }

    private static void askSparks(String name, KnivesGround x, Ring r) {
        Ring from = r.startingAt(below(10)).behind(1);
        x.sheet(1, 8, from.all.size());
        for (int i = 0; i < from.all.size(); i++) {
            x.put(1, i, from.all.get(i).edge);
        }
        int set = 0;
        for (int area = 0; area < 10; area++) {
            boolean so = true;
            Ring then = r.startingAt(area).behind(1);
            for (int i = 0; i < then.all.size(); i++) {
                so &= then.all.get(i).edge == from.all.get(i).edge;
            }
            set += so ? 1 << area : 0;
        }
        Due.is(name + "sparks", x.sparks(1, 0), set);
        Due.is(name + "sparks many", x.sparks(1, 1), Integer.bitCount(set));
    }

    private static void askOfEach(String name, KnivesGround x, Ring r) {
        for (int i = 0; i < r.all.size(); i++) {
            Q q = r.all.get(i);
            int[] due = {q.kind, q.m, q.area, q.edge, q.on, q.ended ? 1 : 0, q.age, r.gains(q), r.needs(q)};
            for (int what = 0; what < due.length; what++) {
                Due.is(name + "of " + i + " what " + what, x.ofQuarrel(i, what), due[what]);
            }
            int n = below(61);
            String of = name + "quarrel " + i + " n " + n + " ";
            Q later = r.behind(n).all.get(i);
            Due.is(of + "then EDGE", x.then(n, i, 0), later.edge);
            Due.is(of + "then ENDED", x.then(n, i, 1), later.ended ? 1 : 0);
            Due.is(of + "then AGE", x.then(n, i, 2), later.age);
            int when = Due.NONE;
            for (int d = 60; d >= 0; d--) {
                when = r.behind(d).hasEnded(i) ? d : when;
            }
            Due.is(of + "when", x.when(i), when);
            askSharpAndOdds(of, x, r, i, n);
        }
        if (!r.all.isEmpty()) {
            int i = r.all.size() - 1;
            int n = below(3) == 0 ? below(21) : below(6);
            Due.is(name + "hand " + i + " n " + n, x.hand(i, n), handOf(r, i, n));
            int j = below(r.all.size());
            Due.is(name + "hand " + j + " n " + n, x.hand(j, n), handOf(r, j, n));
            Due.is(name + "chain " + j, x.chain(j), chainOf(r, j));
        }
    }

    private static void askSharpAndOdds(String of, KnivesGround x, Ring r, int i, int n) {
        int sharp = Due.NONE;
        int good = 0;
        for (int edge = 99; edge >= 0 && n > 0; edge--) {
            Ring with = r.copy();
            with.all.get(i).edge = edge;
            sharp = with.behind(n).hasEnded(i) ? edge : sharp;
        }
        if (n > 0) {
            Due.is(of + "sharp", x.sharp(i, n), sharp);
        }
        for (int area = 0; area < 10; area++) {
            good += r.startingAt(area).behind(n).hasEnded(i) ? 1 : 0;
        }
        int[] above = {0, 1, 1, 3, 2, 1, 3, 7, 4, 9, 1};
        int[] below = {1, 10, 5, 10, 5, 2, 5, 10, 5, 10, 1};
        Due.is(of + "odds above", x.odds(i, n, 0), above[good]);
        Due.is(of + "odds below", x.odds(i, n, 1), below[good]);
    }

    private static int handOf(Ring r, int quarrel, int n) {
        for (int many = 0; many <= r.all.size(); many++) {
            for (int set = 0; set < 1 << r.all.size(); set++) {
                if (Integer.bitCount(set) == many && (set & r.ended()) == 0) {
                    Ring with = r.copy();
                    for (int i = 0; i < r.all.size(); i++) {
                        if ((set >> i & 1) == 1) {
                            with.all.get(i).edge = 99;
                        }
                    }
                    if (with.behind(n).hasEnded(quarrel)) {
                        return set;
                    }
                }
            }
        }
        return Due.NONE;
    }

    private static int chainOf(Ring r, int quarrel) {
        int set = 0;
        for (int i = 0; i < r.all.size(); i++) {
            boolean hangs = false;
            for (int on = r.all.get(i).on; on >= 0; on = r.all.get(on).on) {
                hangs |= on == quarrel;
            }
            set += hangs && !r.hasEnded(i) ? 1 << i : 0;
        }
        return set;
    }

    private static void goOn(String name, KnivesGround x, Ring r) {
        int n = 1 + below(12);
        int due = 0;
        for (int i = 1; i <= n; i++) {
            int guess = r.behind(i).many() + (below(12) == 0 ? 1 : 0);
            x.tell(guess);
            due = due == 0 && guess != r.behind(i).many() ? i : due;
        }
        Due.is(name + "check", x.check(), due);
        if (below(2) == 0) {
            for (int i = 0; i < n; i++) {
                r.day(true);
            }
            Due.is(name + "days", x.days(n), r.many());
        } else {
            long draw = x.count(11) & 0xffffffffL;
            for (int i = 0; i < n; i++) {
                draw = draw * 1103515245L + 12345L & 0xffffffffL;
                r.step = (int) (draw / 256 % 10);
                r.day(true);
            }
            Due.is(name + "loose", x.loose(n), r.many());
        }
        int[] counts = {r.all.size(), r.day, r.at, r.step, r.harm, r.pence, r.ended()};
        for (int what = 0; what < counts.length; what++) {
            Due.is(name + "count " + what, x.count(what), counts[what]);
        }
    }
}
