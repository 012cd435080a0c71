import java.util.ArrayList;
import java.util.List;

/** The ring once more, as a plain second program: it shares nothing with the first one. */
final class Ring {
    /** What a TEXT gives of its three NAMES, before it is held. */
    interface Law {
        int of(int a, int b, int c);
    }

    static final class Q {
        int kind;
        int m;
        int area;
        int edge;
        int on;
        int age;
        boolean ended;

        Q copy() {
            Q q = new Q();
            q.kind = kind;
            q.m = m;
            q.area = area;
            q.edge = edge;
            q.on = on;
            q.age = age;
            q.ended = ended;
            return q;
        }
    }

    final List<Q> all = new ArrayList<>();
    Law grinds = (e, a, d) -> 20;
    Law harms = (e, a, m) -> 9 - e / 11;
    int at;
    int step = 1;
    int day;
    int harm;
    int pence;

    Ring copy() {
        Ring r = new Ring();
        for (Q q : all) {
            r.all.add(q.copy());
        }
        r.grinds = grinds;
        r.harms = harms;
        r.at = at;
        r.step = step;
        r.day = day;
        r.harm = harm;
        r.pence = pence;
        return r;
    }

    Ring behind(int n) {
        Ring r = copy();
        for (int i = 0; i < n; i++) {
            r.day(true);
        }
        return r;
    }

    void day(boolean grinding) {
        for (Q q : all) {
            if (grinding && q.area == at && !q.ended) {
                q.edge = Math.min(99, q.edge + gains(q));
                pence = Math.min(99999, pence + 3);
            }
        }
        for (Q q : all) {
            boolean free = q.on == -1 || all.get(q.on).ended;
            if (!q.ended && free && q.edge >= needs(q)) {
                q.ended = true;
            } else if (!q.ended) {
                harm = Math.min(99999, harm + held(harms.of(q.edge, q.age, q.m)));
                q.edge = Math.max(0, q.edge - new int[] {3, 4, 6, 1, 4, 6, 1}[q.kind]);
                q.age = Math.min(999, q.age + 1);
            }
        }
        at = (at + step) % 10;
        day++;
    }

    int gains(Q q) {
        int v = held(grinds.of(q.edge, q.age, day % 7));
        int asGrudge = v + q.m;
        int[] gains = {v, asGrudge, v + v, v >> 1, Math.max(0, asGrudge - q.age / 10),
            day % 6 == 0 ? 0 : v + v, 0};
        return gains[q.kind];
    }

    int needs(Q q) {
        int[] needs = {50, 50 + q.m + q.m, 30, 80, 55 + q.m + q.m, 30 + q.m, 80 - q.m};
        return needs[q.kind];
    }

    int ended() {
        int set = 0;
        for (int i = 0; i < all.size(); i++) {
            set += all.get(i).ended ? 1 << i : 0;
        }
        return set;
    }

    int many() {
        return Integer.bitCount(ended());
    }

    boolean hasEnded(int q) {
        return all.get(q).ended;
    }

    Ring startingAt(int area) {
        Ring r = copy();
        r.at = area;
        return r;
    }

    Ring stepping(int by) {
        Ring r = copy();
        r.step = by;
        return r;
    }

    static int held(int v) {
        return v < 0 ? 0 : v > 99 ? 99 : v;
    }

    /** A text as what it gives, from its signs: split at the last sign of the loosest level. */
    static Law law(String text, String names) {
        for (String level : new String[] {"|", "&", "<=>", "+-", "*/%"}) {
            int depth = 0;
            for (int i = text.length() - 1; i >= 0; i--) {
                char sign = text.charAt(i);
                depth += sign == ')' ? 1 : sign == '(' ? -1 : 0;
                if (depth == 0 && level.indexOf(sign) >= 0) {
                    Law left = law(text.substring(0, i), names);
                    Law right = law(text.substring(i + 1), names);
                    return (a, b, c) -> join(sign, left.of(a, b, c), right.of(a, b, c));
                }
            }
        }
        char first = text.charAt(0);
        if (first == '!') {
            Law rest = law(text.substring(1), names);
            return (a, b, c) -> rest.of(a, b, c) == 0 ? 1 : 0;
        }
        if (first == '(') {
            return law(text.substring(1, text.length() - 1), names);
        }
        int name = names.indexOf(first);
        int number = name < 0 ? Integer.parseInt(text) : 0;
        return (a, b, c) -> name == 0 ? a : name == 1 ? b : name == 2 ? c : number;
    }

    private static int join(char sign, int x, int y) {
        switch (sign) {
            case '|': return x == 0 && y == 0 ? 0 : 1;
            case '&': return x == 0 || y == 0 ? 0 : 1;
            case '<': return x < y ? 1 : 0;
            case '=': return x == y ? 1 : 0;
            case '>': return x > y ? 1 : 0;
            case '+': return x + y;
            case '-': return x - y;
            case '*': return x * y;
            case '/': return y == 0 ? 0 : x / y;
            default: return y == 0 ? 0 : x % y;
        }
    }
}
