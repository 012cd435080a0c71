/**
 * Quarrels round a ring of areas, and a grinder who puts an edge on them, day by day.
 * What each call must do stands in DOC.md; its words (KIND, EDGE, HARM, ..) are used here.
 */
public final class KnivesGround {
    private static final int LOW = -1000000000;
    private static final int BEYOND = LOW - 1;
    private static final int NONE = LOW - 2;
    private static final int STATE = LOW - 3;
    private static final int FULL = LOW - 4;
    private static final int KIND = LOW - 5;
    private static final int ERRORS = 5;

    private static final int AREAS = 10;
    private static final int STEPS = 10;
    private static final int MOST_QUARRELS = 9;
    private static final int MOST_M = 9;
    private static final int MOST_EDGE = 99;
    private static final int MOST_AGE = 999;
    private static final int MOST_DAY = 9999;
    private static final int MOST_HARM = 99999;
    private static final int MOST_PENCE = 99999;
    private static final int PENCE_FOR_ONE = 3;

    private static final int DAYS_AT_ONCE = 60;
    private static final int LOOSE_AT_ONCE = 40;
    private static final int DAYS_BY_HAND = 20;

    private static final int QUARREL = 0;
    private static final int GRUDGE = 1;
    private static final int SPAT = 2;
    private static final int FEUD = 3;
    private static final int OLD = 4;
    private static final int SULK = 5;
    private static final int WRONG = 6;
    private static final int[] KIND_ABOVE = {-1, QUARREL, QUARREL, QUARREL, GRUDGE, SPAT, FEUD};

    private static final int GRINDS = 0;
    private static final int HARMS = 1;
    private static final int MOST_BYTES = 50;
    private static final int MOST_OPEN = 5;
    private static final int MOST_DIGITS = 4;
    private static final int MOST_GIVEN = 99;

    private static final int SHEETS = 4;
    private static final int MOST_NUMBERS = 40;
    private static final int MOST_BODIES = 40;
    private static final int MOST_WAITING = 20;

    private final Whole now = new Whole();
    private final Whole kept = new Whole();
    private final Ground thought = new Ground(now.grinds, now.harms);
    private final Reader reader = new Reader();
    private final Voices voices = new Voices();
    private final Sheet[] sheets = new Sheet[SHEETS];
    private final int[] refused = new int[ERRORS + 1];
    private int images;

    public KnivesGround() {
        for (int i = 0; i < SHEETS; i++) {
            sheets[i] = new Sheet();
        }
    }

    // ---- the grinder, quarrels

    public int set(int what, int v) {
        if (!isWithin(what, 0, 3) || !isWithin(v, 0, mostOfGrinder(what))) {
            return refuse(BEYOND);
        }
        return now.ground.setGrinder(what, v);
    }

    public int inArea(int area) {
        if (!isWithin(area, 0, AREAS - 1)) {
            return refuse(BEYOND);
        }
        return now.ground.setInArea(area);
    }

    public int quarrel(int km, int area, int edge, int on) {
        Ground ground = now.ground;
        if (!isKindAndM(km) || !isWithin(area, 0, AREAS - 1) || !isWithin(edge, 0, MOST_EDGE)
                || !isWithin(on, -1, ground.many - 1)) {
            return refuse(BEYOND);
        }
        if (ground.many >= MOST_QUARRELS) {
            return refuse(FULL);
        }
        One one = ground.ones[ground.many];
        one.turnInto(km);
        one.area = area;
        one.edge = edge;
        one.on = on;
        one.ended = false;
        one.age = 0;
        ground.many++;
        return ground.many - 1;
    }

    public int ofQuarrel(int quarrel, int what) {
        if (!isQuarrel(quarrel) || !isWithin(what, 0, 9)) {
            return refuse(BEYOND);
        }
        One one = now.ground.ones[quarrel];
        switch (what) {
            case 0: return one.kind;
            case 1: return one.m;
            case 2: return one.area;
            case 3: return one.edge;
            case 4: return one.on;
            case 5: return one.ended ? 1 : 0;
            case 6: return one.age;
            case 7: return now.ground.gainsOf(one);
            case 8: return one.needs();
            default: return one.dulls();
        }
    }

    public int change(int quarrel, int what, int v) {
        if (!isQuarrel(quarrel) || !isWithin(what, 0, 3) || !isWithin(v, 0, mostOfQuarrel(what))) {
            return refuse(BEYOND);
        }
        return now.ground.ones[quarrel].changeTo(what, v);
    }

    public int become(int quarrel, int km) {
        if (!isQuarrel(quarrel) || !isKindAndM(km)) {
            return refuse(BEYOND);
        }
        One one = now.ground.ones[quarrel];
        int was = one.kind;
        one.turnInto(km);
        return was;
    }

    public int as(int quarrel, int kind) {
        if (!isQuarrel(quarrel) || !isWithin(kind, QUARREL, WRONG)) {
            return refuse(BEYOND);
        }
        One one = now.ground.ones[quarrel];
        return one.isOfKind(kind) ? one.m : refuse(KIND);
    }

    // ---- texts

    public int feed(long word, int n) {
        if (!isWithin(n, 1, 8)) {
            return refuse(BEYOND);
        }
        if (now.bytes + n > MOST_BYTES) {
            return refuse(FULL);
        }
        for (int i = 0; i < n; i++) {
            now.tape[now.bytes + i] = (int) (word >>> (8 * i)) & 255;
        }
        now.bytes += n;
        return now.bytes;
    }

    public int text(int use) {
        if (!isWithin(use, GRINDS, HARMS)) {
            return refuse(BEYOND);
        }
        int fault = reader.read(now.tape, now.bytes, use);
        now.bytes = 0;
        if (fault >= 0) {
            return -10 - fault;
        }
        now.textOf(use).copyFrom(reader.text);
        return 1;
    }

    public int law(int use, int a, int b, int c) {
        if (!isWithin(use, GRINDS, HARMS)) {
            return refuse(BEYOND);
        }
        return now.textOf(use).gives(a, b, c);
    }

    // ---- days

    public int days(int n) {
        if (!isWithin(n, 1, DAYS_AT_ONCE)) {
            return refuse(BEYOND);
        }
        if (now.ground.day + n > MOST_DAY) {
            return refuse(STATE);
        }
        for (int i = 0; i < n; i++) {
            now.ground.passDay(true);
        }
        return now.ground.endedMany();
    }

    public int loose(int n) {
        if (!isWithin(n, 1, LOOSE_AT_ONCE)) {
            return refuse(BEYOND);
        }
        if (now.ground.day + n > MOST_DAY) {
            return refuse(STATE);
        }
        for (int i = 0; i < n; i++) {
            now.ground.step = now.draw() % STEPS;
            now.ground.passDay(true);
        }
        return now.ground.endedMany();
    }

    // ---- what would be

    public int then(int n, int quarrel, int what) {
        if (!isWithin(n, 0, DAYS_AT_ONCE) || !isQuarrel(quarrel) || !isWithin(what, 0, 2)) {
            return refuse(BEYOND);
        }
        think();
        thinkDays(n);
        One one = thought.ones[quarrel];
        switch (what) {
            case 0: return one.edge;
            case 1: return one.ended ? 1 : 0;
            default: return one.age;
        }
    }

    public int when(int quarrel) {
        if (!isQuarrel(quarrel)) {
            return refuse(BEYOND);
        }
        think();
        for (int day = 0; day <= DAYS_AT_ONCE; day++) {
            if (thought.ones[quarrel].ended) {
                return day;
            }
            thought.passDay(false);
        }
        return refuse(NONE);
    }

    public int ended(int n) {
        if (!isWithin(n, 0, DAYS_AT_ONCE)) {
            return refuse(BEYOND);
        }
        think();
        thinkDays(n);
        return thought.setEnded();
    }

    public int start(int n, int what) {
        if (!isWithin(n, 0, DAYS_AT_ONCE) || !isWithin(what, 0, 1)) {
            return refuse(BEYOND);
        }
        int best = 0;
        int most = -1;
        for (int area = 0; area < AREAS; area++) {
            think();
            thought.grinder = area;
            thinkDays(n);
            if (thought.endedMany() > most) {
                best = area;
                most = thought.endedMany();
            }
        }
        return what == 0 ? best : most;
    }

    public int pace(int n, int what) {
        if (!isWithin(n, 0, DAYS_AT_ONCE) || !isWithin(what, 0, 1)) {
            return refuse(BEYOND);
        }
        int best = 0;
        int most = -1;
        for (int step = 0; step < STEPS; step++) {
            think();
            thought.step = step;
            thinkDays(n);
            if (thought.endedMany() > most) {
                best = step;
                most = thought.endedMany();
            }
        }
        return what == 0 ? best : most;
    }

    public int hand(int quarrel, int n) {
        if (!isQuarrel(quarrel) || !isWithin(n, 0, DAYS_BY_HAND)) {
            return refuse(BEYOND);
        }
        // No other one can hasten its end, so a set with another one is never of the fewest.
        int helpers = now.ground.setItHangsOn(quarrel) & ~now.ground.setEnded();
        int best = -1;
        for (int set = 0; set < 1 << MOST_QUARRELS; set++) {
            boolean fewer = best < 0 || Integer.bitCount(set) < Integer.bitCount(best);
            if ((set & ~helpers) == 0 && fewer) {
                think();
                thought.sharpen(set);
                if (endsInThought(quarrel, n)) {
                    best = set;
                }
            }
        }
        return best < 0 ? refuse(NONE) : best;
    }

    public int first(int n, int what) {
        if (!isWithin(n, 0, DAYS_AT_ONCE) || !isWithin(what, 0, 1)) {
            return refuse(BEYOND);
        }
        int best = -1;
        int least = 0;
        for (int quarrel = 0; quarrel < now.ground.many; quarrel++) {
            think();
            thought.ones[quarrel].ended = true;
            thinkDaysWithHarm(n);
            if (best < 0 || thought.harm < least) {
                best = quarrel;
                least = thought.harm;
            }
        }
        if (best < 0) {
            return refuse(NONE);
        }
        return what == 0 ? best : least - now.ground.harm;
    }

    public int sparks(int sheet, int what) {
        if (!isSheet(sheet) || !isWithin(what, 0, 1)) {
            return refuse(BEYOND);
        }
        Sheet told = sheets[sheet];
        if (told.isMissing() || told.many != now.ground.many) {
            return refuse(NONE);
        }
        int set = 0;
        for (int area = 0; area < AREAS; area++) {
            think();
            thought.grinder = area;
            thought.passDay(false);
            if (thought.hasEdges(told)) {
                set |= 1 << area;
            }
        }
        return what == 0 ? set : Integer.bitCount(set);
    }

    public int last(int what) {
        if (!isWithin(what, 0, 1)) {
            return refuse(BEYOND);
        }
        think();
        int which = -1;
        int behind = 0;
        for (int day = 1; day <= DAYS_AT_ONCE; day++) {
            int before = thought.setEnded();
            thought.passDay(false);
            int fresh = thought.setEnded() & ~before;
            if (fresh != 0) {
                which = greatestOf(fresh);
                behind = day;
            }
        }
        if (which < 0) {
            return refuse(NONE);
        }
        return what == 0 ? which : behind;
    }

    public int sharp(int quarrel, int n) {
        if (!isQuarrel(quarrel) || !isWithin(n, 1, DAYS_AT_ONCE)) {
            return refuse(BEYOND);
        }
        // Every EDGE is tried: a TEXT may give a sharper one less, so that it ends later.
        for (int edge = 0; edge <= MOST_EDGE; edge++) {
            think();
            thought.ones[quarrel].edge = edge;
            if (endsInThought(quarrel, n)) {
                return edge;
            }
        }
        return refuse(NONE);
    }

    public int off(int n) {
        if (!isWithin(n, 0, DAYS_AT_ONCE)) {
            return refuse(BEYOND);
        }
        think();
        thinkDaysWithHarm(n);
        int harmElse = thought.harm;
        think();
        if (n > 0) {
            thought.restDay(true);
            thinkDaysWithHarm(n - 1);
        }
        return thought.harm - harmElse;
    }

    public int chain(int quarrel) {
        if (!isQuarrel(quarrel)) {
            return refuse(BEYOND);
        }
        return now.ground.setHangingOn(quarrel) & ~now.ground.setEnded();
    }

    public int fee(int n) {
        if (!isWithin(n, 0, DAYS_AT_ONCE)) {
            return refuse(BEYOND);
        }
        think();
        thinkDays(n);
        return thought.pence - now.ground.pence;
    }

    public int free() {
        return now.ground.setFree();
    }

    public int odds(int quarrel, int n, int part) {
        if (!isQuarrel(quarrel) || !isWithin(n, 0, DAYS_AT_ONCE) || !isWithin(part, 0, 1)) {
            return refuse(BEYOND);
        }
        int good = 0;
        for (int area = 0; area < AREAS; area++) {
            think();
            thought.grinder = area;
            if (endsInThought(quarrel, n)) {
                good++;
            }
        }
        int divisor = greatestDivisor(good, AREAS);
        return part == 0 ? good / divisor : AREAS / divisor;
    }

    // ---- draws, voices, sheets, images, what is told

    public int seed(int v) {
        int was = now.z;
        now.z = v;
        return was;
    }

    public int voice(int quarrel, int act, int x) {
        if (!isQuarrel(quarrel) || !isWithin(act, 0, 3)) {
            return refuse(BEYOND);
        }
        One one = now.ground.ones[quarrel];
        voices.beginWith(one.kind, quarrel, one.m);
        return voices.say(act, x);
    }

    public int trace(int i) {
        return isWithin(i, 0, voices.bodies - 1) ? voices.trace[i] : refuse(NONE);
    }

    public int sheet(int sheet, int bits, int n) {
        if (!isSheet(sheet) || !(bits == 0 || bits == 8 || bits == 16 || bits == 32)) {
            return refuse(BEYOND);
        }
        if (bits != 0 && n < 0) {
            return refuse(STATE);
        }
        if (bits != 0 && n > MOST_NUMBERS) {
            return refuse(BEYOND);
        }
        sheets[sheet].lay(bits, bits == 0 ? 0 : n);
        return 1;
    }

    public int put(int sheet, int i, int v) {
        if (!isSheet(sheet)) {
            return refuse(BEYOND);
        }
        Sheet row = sheets[sheet];
        if (row.isMissing()) {
            return refuse(NONE);
        }
        if (!isWithin(i, 0, row.many - 1)) {
            return refuse(BEYOND);
        }
        row.write(i, v);
        return 1;
    }

    public int move(int sheet, int i, int other, int j, int n) {
        if (!isSheet(sheet) || !isSheet(other)) {
            return refuse(BEYOND);
        }
        Sheet from = sheets[sheet];
        Sheet to = sheets[other];
        if (from.isMissing() || to.isMissing()) {
            return refuse(NONE);
        }
        if (from.bits != to.bits) {
            return refuse(KIND);
        }
        if (!from.hasNumbers(i, n) || !to.hasNumbers(j, n)) {
            return refuse(BEYOND);
        }
        System.arraycopy(from.numbers, i, to.numbers, j, n);
        return n;
    }

    public int edges(int sheet) {
        if (!isSheet(sheet)) {
            return refuse(BEYOND);
        }
        Sheet row = sheets[sheet];
        if (row.isMissing()) {
            return refuse(NONE);
        }
        int most = Math.min(row.many, now.ground.many);
        for (int i = 0; i < most; i++) {
            if (!isWithin(row.numbers[i], 0, MOST_EDGE)) {
                return i;
            }
            now.ground.ones[i].edge = row.numbers[i];
        }
        return most;
    }

    public int judge(int sheet) {
        if (!isSheet(sheet)) {
            return refuse(BEYOND);
        }
        Sheet row = sheets[sheet];
        if (row.isMissing()) {
            return refuse(NONE);
        }
        int both = Math.min(row.many, now.ground.many);
        for (int i = 0; i < both; i++) {
            if (row.numbers[i] != now.ground.ones[i].age) {
                return i;
            }
        }
        return row.many == now.ground.many ? -1 : both;
    }

    public int image() {
        kept.copyFrom(now);
        images++;
        return images;
    }

    public int restore() {
        if (images == 0) {
            return refuse(NONE);
        }
        now.copyFrom(kept);
        return now.ground.day;
    }

    public int tell(int v) {
        if (now.waits >= MOST_WAITING) {
            return refuse(FULL);
        }
        now.waiting[now.waits] = v;
        now.waits++;
        return now.waits;
    }

    public int check() {
        int told = now.waits;
        now.waits = 0;
        think();
        for (int i = 0; i < told; i++) {
            thought.passDay(false);
            if (now.waiting[i] != thought.endedMany()) {
                return 1 + i;
            }
        }
        return 0;
    }

    public int count(int what) {
        Ground ground = now.ground;
        switch (what) {
            case 0: return ground.many;
            case 1: return ground.day;
            case 2: return ground.grinder;
            case 3: return ground.step;
            case 4: return ground.harm;
            case 5: return ground.pence;
            case 6: return ground.setEnded();
            case 7: return ground.edgesTogether();
            case 8: return now.bytes;
            case 9: return now.waits;
            case 10: return voices.bodies;
            case 11: return now.z;
            default: return refuse(BEYOND);
        }
    }

    public int told(int k) {
        return isWithin(k, 1, ERRORS) ? refused[k] : refuse(BEYOND);
    }

    // ---- what the acts share

    private int refuse(int error) {
        refused[LOW - error]++;
        return error;
    }

    private boolean isQuarrel(int quarrel) {
        return isWithin(quarrel, 0, now.ground.many - 1);
    }

    private static boolean isSheet(int sheet) {
        return isWithin(sheet, 0, SHEETS - 1);
    }

    private static boolean isKindAndM(int km) {
        return isWithin(km, 0, 10 * WRONG + MOST_M);
    }

    private static boolean isWithin(int v, int least, int most) {
        return v >= least && v <= most;
    }

    private static int mostOfGrinder(int what) {
        switch (what) {
            case 0: return AREAS - 1;
            case 1: return STEPS - 1;
            case 2: return MOST_HARM;
            default: return MOST_PENCE;
        }
    }

    private static int mostOfQuarrel(int what) {
        switch (what) {
            case 0: return AREAS - 1;
            case 1: return MOST_EDGE;
            case 2: return 1;
            default: return MOST_AGE;
        }
    }

    private static int greatestOf(int set) {
        int greatest = -1;
        for (int i = 0; i < MOST_QUARRELS; i++) {
            if ((set >> i & 1) != 0) {
                greatest = i;
            }
        }
        return greatest;
    }

    private static int greatestDivisor(int x, int y) {
        for (int divisor = y; divisor > 1; divisor--) {
            if (x % divisor == 0 && y % divisor == 0) {
                return divisor;
            }
        }
        return 1;
    }

    // ---- thinking: a copy of the ground goes ahead, the ground itself stays

    private void think() {
        thought.copyFrom(now.ground);
    }

    // HARM steers nothing else, so where it isn't asked for it isn't worked out.
    private void thinkDays(int n) {
        for (int i = 0; i < n; i++) {
            thought.passDay(false);
        }
    }

    private void thinkDaysWithHarm(int n) {
        for (int i = 0; i < n; i++) {
            thought.passDay(true);
        }
    }

    private boolean endsInThought(int quarrel, int n) {
        One one = thought.ones[quarrel];
        for (int i = 0; i < n && !one.ended; i++) {
            thought.passDay(false);
        }
        return one.ended;
    }

    /** A quarrel: its KIND is a number, so that it can become another one. */
    private static final class One {
        private int kind;
        private int m;
        private int area;
        private int edge;
        private int on;
        private int age;
        private boolean ended;

        private void turnInto(int km) {
            kind = km / 10;
            m = km % 10;
        }

        private void copyFrom(One other) {
            kind = other.kind;
            m = other.m;
            area = other.area;
            edge = other.edge;
            on = other.on;
            age = other.age;
            ended = other.ended;
        }

        private int changeTo(int what, int v) {
            int was;
            switch (what) {
                case 0:
                    was = area;
                    area = v;
                    return was;
                case 1:
                    was = edge;
                    edge = v;
                    return was;
                case 2:
                    was = ended ? 1 : 0;
                    ended = v == 1;
                    return was;
                default:
                    was = age;
                    age = v;
                    return was;
            }
        }

        private boolean isOfKind(int asked) {
            return asked == kind || asked == KIND_ABOVE[kind] || asked == QUARREL;
        }

        private int gains(int v, int day) {
            switch (kind) {
                case GRUDGE: return v + m;
                case SPAT: return 2 * v;
                case FEUD: return v / 2;
                case OLD: return Math.max(0, v + m - age / 10);
                case SULK: return day % 6 == 0 ? 0 : 2 * v;
                case WRONG: return 0;
                default: return v;
            }
        }

        private int needs() {
            switch (kind) {
                case GRUDGE: return 50 + 2 * m;
                case SPAT: return 30;
                case FEUD: return 80;
                case OLD: return 50 + 2 * m + 5;
                case SULK: return 30 + m;
                case WRONG: return 80 - m;
                default: return 50;
            }
        }

        private int dulls() {
            switch (kind) {
                case GRUDGE:
                case OLD: return 3 + 1;
                case SPAT:
                case SULK: return 2 * 3;
                case FEUD:
                case WRONG: return 1;
                default: return 3;
            }
        }
    }

    /** The ring with its quarrels and the grinder: all that a DAY changes. */
    private static final class Ground {
        private final Text grinds;
        private final Text harms;
        private final One[] ones = new One[MOST_QUARRELS];
        private int many;
        private int grinder;
        private int step = 1;
        private int day;
        private int harm;
        private int pence;

        private Ground(Text grinds, Text harms) {
            this.grinds = grinds;
            this.harms = harms;
            for (int i = 0; i < MOST_QUARRELS; i++) {
                ones[i] = new One();
            }
        }

        private void copyFrom(Ground other) {
            for (int i = 0; i < other.many; i++) {
                ones[i].copyFrom(other.ones[i]);
            }
            many = other.many;
            grinder = other.grinder;
            step = other.step;
            day = other.day;
            harm = other.harm;
            pence = other.pence;
        }

        private int setGrinder(int what, int v) {
            int was;
            switch (what) {
                case 0:
                    was = grinder;
                    grinder = v;
                    return was;
                case 1:
                    was = step;
                    step = v;
                    return was;
                case 2:
                    was = harm;
                    harm = v;
                    return was;
                default:
                    was = pence;
                    pence = v;
                    return was;
            }
        }

        private void passDay(boolean withHarm) {
            grindArea();
            restDay(withHarm);
        }

        private void restDay(boolean withHarm) {
            endOrDull(withHarm);
            grinder = (grinder + step) % AREAS;
            day++;
        }

        private void grindArea() {
            for (int i = 0; i < many; i++) {
                One one = ones[i];
                if (one.area == grinder && !one.ended) {
                    one.edge = Math.min(MOST_EDGE, one.edge + gainsOf(one));
                    pence = Math.min(MOST_PENCE, pence + PENCE_FOR_ONE);
                }
            }
        }

        private void endOrDull(boolean withHarm) {
            for (int i = 0; i < many; i++) {
                One one = ones[i];
                if (one.ended) {
                    continue;
                }
                if (one.edge >= one.needs() && isFree(one)) {
                    one.ended = true;
                    continue;
                }
                if (withHarm) {
                    harm = Math.min(MOST_HARM, harm + harms.gives(one.edge, one.age, one.m));
                }
                one.edge = Math.max(0, one.edge - one.dulls());
                one.age = Math.min(MOST_AGE, one.age + 1);
            }
        }

        private int gainsOf(One one) {
            return one.gains(grinds.gives(one.edge, one.age, day % 7), day);
        }

        private boolean isFree(One one) {
            return !isWithin(one.on, 0, many - 1) || ones[one.on].ended;
        }

        private void sharpen(int set) {
            for (int i = 0; i < many; i++) {
                if ((set >> i & 1) != 0) {
                    ones[i].edge = MOST_EDGE;
                }
            }
        }

        private boolean hasEdges(Sheet sheet) {
            for (int i = 0; i < many && i < sheet.many; i++) {
                if (ones[i].edge != sheet.numbers[i]) {
                    return false;
                }
            }
            return true;
        }

        private int edgesTogether() {
            int sum = 0;
            for (int i = 0; i < many; i++) {
                sum += ones[i].edge;
            }
            return sum;
        }

        private int endedMany() {
            return Integer.bitCount(setEnded());
        }

        private int setEnded() {
            int set = 0;
            for (int i = 0; i < many; i++) {
                set |= ones[i].ended ? 1 << i : 0;
            }
            return set;
        }

        private int setInArea(int area) {
            int set = 0;
            for (int i = 0; i < many; i++) {
                set |= ones[i].area == area ? 1 << i : 0;
            }
            return set;
        }

        private int setFree() {
            int set = 0;
            for (int i = 0; i < many; i++) {
                set |= !ones[i].ended && isFree(ones[i]) ? 1 << i : 0;
            }
            return set;
        }

        // One way is enough here and below: each hangs on one of a lesser number.
        private int setHangingOn(int quarrel) {
            int set = 0;
            for (int i = quarrel + 1; i < many; i++) {
                int on = ones[i].on;
                if (on == quarrel || on >= 0 && (set >> on & 1) != 0) {
                    set |= 1 << i;
                }
            }
            return set;
        }

        private int setItHangsOn(int quarrel) {
            int set = 1 << quarrel;
            for (int i = quarrel; i > 0; i--) {
                if ((set >> i & 1) != 0 && ones[i].on >= 0) {
                    set |= 1 << ones[i].on;
                }
            }
            return set;
        }
    }

    /** A TEXT that has been read: rows of nodes, each behind those that it joins. */
    private static final class Text {
        private static final int NUMBER = '0';
        private static final int NAME = 'n';

        private final int[] signs = new int[MOST_BYTES];
        private final int[] lefts = new int[MOST_BYTES];
        private final int[] rights = new int[MOST_BYTES];
        private final int[] values = new int[MOST_BYTES];
        private int use;
        private int size;

        private void clear(int forUse) {
            use = forUse;
            size = 0;
        }

        // For NUMBER and NAME left is the number, or the name's place, itself.
        private int add(int sign, int left, int right) {
            if (size < MOST_BYTES) {
                signs[size] = sign;
                lefts[size] = left;
                rights[size] = right;
                size++;
            }
            return size - 1;
        }

        private void copyFrom(Text other) {
            System.arraycopy(other.signs, 0, signs, 0, other.size);
            System.arraycopy(other.lefts, 0, lefts, 0, other.size);
            System.arraycopy(other.rights, 0, rights, 0, other.size);
            use = other.use;
            size = other.size;
        }

        private int gives(int a, int b, int c) {
            int v = size > 0 ? workedOut(a, b, c) : use == GRINDS ? 20 : 9 - a / 11;
            return Math.max(0, Math.min(MOST_GIVEN, v));
        }

        private int workedOut(int a, int b, int c) {
            for (int i = 0; i < size; i++) {
                int left = lefts[i];
                if (signs[i] == NUMBER) {
                    values[i] = left;
                } else if (signs[i] == NAME) {
                    values[i] = left == 0 ? a : left == 1 ? b : c;
                } else {
                    values[i] = joined(signs[i], values[left], values[rights[i]]);
                }
            }
            return values[size - 1];
        }

        private static int joined(int sign, int x, int y) {
            switch (sign) {
                case '|': return x != 0 || y != 0 ? 1 : 0;
                case '&': return x != 0 && y != 0 ? 1 : 0;
                case '<': return x < y ? 1 : 0;
                case '=': return x == y ? 1 : 0;
                case '>': return x > y ? 1 : 0;
                case '+': return x + y;
                case '-': return x - y;
                case '*': return x * y;
                case '/': return y == 0 ? 0 : x / y;
                case '%': return y == 0 ? 0 : x % y;
                default: return x == 0 ? 1 : 0;
            }
        }
    }

    /** Reads THE TAPE into a TEXT, a level of the grammar at a time, up to the first FAULT. */
    private static final class Reader {
        private static final int COMPARING = 2;
        private static final int INNERMOST = 5;

        private final Text text = new Text();
        private final int[] bytes = new int[MOST_BYTES];
        private int many;
        private int place;
        private int fault;

        /** The FAULT, or -1. */
        private int read(int[] tape, int length, int use) {
            many = Math.min(length, MOST_BYTES);
            System.arraycopy(tape, 0, bytes, 0, many);
            place = 0;
            fault = -1;
            text.clear(use);
            readLevel(0, 0);
            if (fault < 0 && place < many) {
                fault = place;
            }
            return fault;
        }

        /** Levels 0 .. 4 are T, A, B, S, P of the grammar, 5 is Q; gives the node read. */
        private int readLevel(int level, int open) {
            if (level >= INNERMOST) {
                return readInnermost(open);
            }
            int node = readLevel(level + 1, open);
            int most = level == COMPARING ? 1 : MOST_BYTES;
            for (int i = 0; i < most && fault < 0 && levelOf(next()) == level; i++) {
                int sign = next();
                place++;
                int right = readLevel(level + 1, open);
                node = text.add(sign, node, right);
            }
            return node;
        }

        private int readInnermost(int open) {
            int sign = next();
            if (isDigit(sign)) {
                return readNumber();
            }
            if (nameOf(sign) >= 0) {
                place++;
                return text.add(Text.NAME, nameOf(sign), 0);
            }
            if ((sign == '!' || sign == '(') && open < MOST_OPEN) {
                place++;
                return sign == '!' ? readNot(open + 1) : readBrackets(open + 1);
            }
            return stop();
        }

        private int readNumber() {
            int number = 0;
            for (int i = 0; i < MOST_DIGITS && isDigit(next()); i++) {
                number = 10 * number + next() - '0';
                place++;
            }
            return text.add(Text.NUMBER, number, 0);
        }

        private int readNot(int open) {
            int node = readInnermost(open);
            return text.add('!', node, node);
        }

        private int readBrackets(int open) {
            int node = readLevel(0, open);
            if (fault >= 0 || next() != ')') {
                return stop();
            }
            place++;
            return node;
        }

        // The first FAULT stays; its node is never worked out.
        private int stop() {
            if (fault < 0) {
                fault = place;
            }
            return 0;
        }

        private int next() {
            return place < many ? bytes[place] : -1;
        }

        private int nameOf(int sign) {
            if (sign == 'e') {
                return 0;
            }
            if (sign == 'a') {
                return 1;
            }
            return sign == (text.use == GRINDS ? 'd' : 'm') ? 2 : -1;
        }

        private static boolean isDigit(int sign) {
            return isWithin(sign, '0', '9');
        }

        private static int levelOf(int sign) {
            switch (sign) {
                case '|': return 0;
                case '&': return 1;
                case '<':
                case '=':
                case '>': return COMPARING;
                case '+':
                case '-': return 3;
                case '*':
                case '/':
                case '%': return 4;
                default: return -1;
            }
        }
    }

    /** All that an IMAGE keeps. */
    private static final class Whole {
        private final Text grinds = new Text();
        private final Text harms = new Text();
        private final Ground ground = new Ground(grinds, harms);
        private final int[] tape = new int[MOST_BYTES];
        private final int[] waiting = new int[MOST_WAITING];
        private int bytes;
        private int waits;
        private int z = 1;

        private Whole() {
            grinds.clear(GRINDS);
            harms.clear(HARMS);
        }

        private Text textOf(int use) {
            return use == GRINDS ? grinds : harms;
        }

        private int draw() {
            z = z * 1103515245 + 12345;
            return z >>> 8;
        }

        private void copyFrom(Whole other) {
            grinds.copyFrom(other.grinds);
            harms.copyFrom(other.harms);
            ground.copyFrom(other.ground);
            System.arraycopy(other.tape, 0, tape, 0, other.bytes);
            System.arraycopy(other.waiting, 0, waiting, 0, other.waits);
            bytes = other.bytes;
            waits = other.waits;
            z = other.z;
        }
    }

    /**
     * The VOICES of a quarrel and THE TRACE. Each takes the KIND from which the BODY is looked
     * for: the quarrel's own, or for super the one above that of the BODY which calls.
     */
    private static final class Voices {
        private final int[] trace = new int[MOST_BODIES];
        private int bodies;
        private int own;
        private int n;
        private int m;

        private void beginWith(int kind, int number, int itsM) {
            bodies = 0;
            own = kind;
            n = number;
            m = itsM;
        }

        private int say(int act, int x) {
            switch (act) {
                case 0: return sayGrinds(own, x);
                case 1: return sayCuts(own, x);
                case 2: return saySparks(own, x);
                default: return sayTells(own, x);
            }
        }

        private void begin(int body) {
            if (bodies < MOST_BODIES) {
                trace[bodies] = body;
                bodies++;
            }
        }

        private int sayGrinds(int from, int x) {
            switch (from) {
                case GRUDGE:
                case OLD:
                    begin(20);
                    return sayGrinds(QUARREL, x) * 3;
                default:
                    begin(10);
                    return x + n;
            }
        }

        private int sayCuts(int from, int x) {
            switch (from) {
                case SPAT:
                    begin(30);
                    return sayCuts(QUARREL, x) - saySparks(own, 1);
                case SULK:
                    begin(60);
                    return sayCuts(SPAT, x + 1);
                default:
                    begin(11);
                    return sayGrinds(own, x) * 2;
            }
        }

        private int saySparks(int from, int x) {
            switch (from) {
                case FEUD:
                    begin(40);
                    return -saySparks(QUARREL, x);
                case WRONG:
                    begin(70);
                    return saySparks(FEUD, x) ^ n;
                default:
                    begin(12);
                    return x - m;
            }
        }

        private int sayTells(int from, int x) {
            switch (from) {
                case OLD:
                    begin(50);
                    return sayTells(GRUDGE, x) - sayGrinds(own, 2);
                case WRONG:
                    begin(71);
                    return sayCuts(own, x) - sayTells(FEUD, x);
                default:
                    begin(13);
                    return sayCuts(own, x) ^ saySparks(own, x);
            }
        }
    }

    /** A SHEET; one of 0 bits is missing. */
    private static final class Sheet {
        private final int[] numbers = new int[MOST_NUMBERS];
        private int bits;
        private int many;

        private boolean isMissing() {
            return bits == 0;
        }

        private void lay(int ofBits, int n) {
            bits = ofBits;
            many = n;
            for (int i = 0; i < MOST_NUMBERS; i++) {
                numbers[i] = 0;
            }
        }

        private void write(int i, int v) {
            numbers[i] = bits == 8 ? (byte) v : bits == 16 ? (short) v : v;
        }

        // As a difference: i + n might go round.
        private boolean hasNumbers(int i, int n) {
            return i >= 0 && n >= 0 && n <= many - i;
        }
    }
}
