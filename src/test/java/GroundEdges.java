/** Terms 1 and promises 1 to 8, 12, 13, sentence by sentence. */
final class GroundEdges {
    private static final int[] KM = {0, 10, 20, 30, 40, 50, 60};

    private GroundEdges() {
    }

    static void all() {
        areas();
        atFirst();
        quarrelsAtMost();
        whatAQuarrelHas();
        gains();
        needs();
        dulls();
        grinding();
        pence();
        ending();
        harm();
        dulling();
        goingOn();
        promise1();
        promises2And3();
        promise4();
        promise5();
        promises6To8();
        promises12And13();
    }

    /** One QUARREL far from THE GRINDER, who stays in AREA 0. */
    private static KnivesGround one(int km, int edge) {
        KnivesGround x = new KnivesGround();
        x.set(1, 0);
        x.quarrel(km, 5, edge, -1);
        return x;
    }

    /** One QUARREL where THE GRINDER stays, and what GRINDS gives. */
    private static KnivesGround ground(int km, int edge, String grinds) {
        KnivesGround x = new KnivesGround();
        x.set(1, 0);
        x.quarrel(km, 0, edge, -1);
        Due.text(x, 0, grinds);
        return x;
    }

    // ---- Terms 1

    private static void areas() {
        Edges.says(Edges.TERMS, "1. AREAS 0 .. 9 go round (9 is beside 0, too).");
        KnivesGround x = new KnivesGround();
        x.set(0, 9);
        x.days(1);
        Edges.is("up from 9", x.count(2), 0);
        x.set(1, 9);
        x.days(1);
        Edges.is("nine up from 0", x.count(2), 9);
        x.days(1);
        Edges.is("nine up from 9", x.count(2), 8);
        Edges.is("no AREA 10", x.inArea(10), Due.BEYOND);
        Edges.is("no AREA -1", x.inArea(-1), Due.BEYOND);
        Edges.is("AREA 9", x.inArea(9), 0);
        Edges.is("AREA 0", x.inArea(0), 0);
    }

    private static void atFirst() {
        KnivesGround x = new KnivesGround();
        Edges.says(Edges.TERMS, "THE GRINDER is in an AREA (0 at first), with a STEP (0 to 9; 1 at first).");
        Edges.is("AREA", x.count(2), 0);
        Edges.is("STEP", x.count(3), 1);
        Edges.is("STEP 9", x.set(1, 9), 1);
        Edges.is("STEP 10", x.set(1, 10), Due.BEYOND);
        Edges.is("STEP 0", x.set(1, 0), 9);
        Edges.is("STEP -1", x.set(1, -1), Due.BEYOND);
        Edges.says(Edges.TERMS,
            "DAY (0 to 9999; 0 at first), HARM (0 to 99999; 0 at first), PENCE (0 to 99999; 0 at first).");
        Edges.is("DAY", x.count(1), 0);
        Edges.is("HARM", x.count(4), 0);
        Edges.is("PENCE", x.count(5), 0);
        Edges.is("HARM 99999", x.set(2, 99999), 0);
        Edges.is("HARM 100000", x.set(2, 100000), Due.BEYOND);
        Edges.is("HARM -1", x.set(2, -1), Due.BEYOND);
        Edges.is("PENCE 99999", x.set(3, 99999), 0);
        Edges.is("PENCE 100000", x.set(3, 100000), Due.BEYOND);
        Edges.is("PENCE -1", x.set(3, -1), Due.BEYOND);
        Edges.is("DAY 9999", Edges.toDay(x, 9999).count(1), 9999);
        Edges.is("DAY 10000", x.days(1), Due.STATE);
    }

    private static void quarrelsAtMost() {
        Edges.says(Edges.TERMS, "QUARRELS 0, 1, .. (at most 9),");
        KnivesGround x = new KnivesGround();
        for (int i = 0; i < 9; i++) {
            Edges.is("the number of one more", x.quarrel(0, 5, 0, -1), i);
        }
        Edges.is("the tenth", x.quarrel(0, 5, 0, -1), Due.FULL);
        Edges.is("how many", x.count(0), 9);
        Edges.is("the last as a set", x.inArea(5), 511);
        Edges.is("of 8", x.ofQuarrel(8, 2), 5);
        Edges.is("of 9", x.ofQuarrel(9, 2), Due.BEYOND);
    }

    private static void whatAQuarrelHas() {
        Edges.says(Edges.TERMS, "of KINDS: 0 QUARREL; 1 GRUDGE, 2 SPAT, 3 FEUD under QUARREL; 4 OLD under GRUDGE;"
            + " 5 SULK under SPAT; 6 WRONG under FEUD;");
        int[] kindsOf = {1, 3, 5, 9, 19, 37, 73};
        KnivesGround x = one(0, 0);
        for (int kind = 0; kind < 7; kind++) {
            x.become(0, KM[kind]);
            int kinds = 0;
            for (int asked = 0; asked < 7; asked++) {
                kinds |= x.as(0, asked) == 0 ? 1 << asked : 0;
            }
            Edges.is("the KINDS of " + kind, kinds, kindsOf[kind]);
        }
        Edges.is("no KIND 7", x.become(0, 70), Due.BEYOND);
        Edges.says(Edges.TERMS, "with a number m (0 to 9), in an AREA, an EDGE (0 to 99),");
        KnivesGround y = new KnivesGround();
        y.quarrel(9, 0, 0, -1);
        y.quarrel(10, 9, 99, -1);
        Edges.is("km 9: KIND", y.ofQuarrel(0, 0), 0);
        Edges.is("km 9: m", y.ofQuarrel(0, 1), 9);
        Edges.is("km 10: KIND", y.ofQuarrel(1, 0), 1);
        Edges.is("km 10: m", y.ofQuarrel(1, 1), 0);
        Edges.is("EDGE 0", y.ofQuarrel(0, 3), 0);
        Edges.is("EDGE 99", y.ofQuarrel(1, 3), 99);
        Edges.is("EDGE 100", y.quarrel(0, 0, 100, -1), Due.BEYOND);
        Edges.is("EDGE -1", y.quarrel(0, 0, -1, -1), Due.BEYOND);
        Edges.is("AREA 10", y.quarrel(0, 10, 0, -1), Due.BEYOND);
        Edges.is("AREA -1", y.quarrel(0, -1, 0, -1), Due.BEYOND);
        Edges.says(Edges.TERMS, "HANGING on another one of a lesser number, or none (-1),");
        Edges.is("on itself", y.quarrel(0, 0, 0, 2), Due.BEYOND);
        Edges.is("on one below none", y.quarrel(0, 0, 0, -2), Due.BEYOND);
        Edges.is("on the one ahead", y.quarrel(0, 0, 0, 1), 2);
        Edges.is("on the first", y.quarrel(0, 0, 0, 0), 3);
        Edges.is("on none", y.ofQuarrel(0, 4), -1);
        Edges.is("on 1", y.ofQuarrel(2, 4), 1);
        Edges.is("on 0", y.ofQuarrel(3, 4), 0);
        Edges.says(Edges.TERMS, "ENDED or not (at first), AGE (0 to 999 DAYS; 0 at first).");
        Edges.is("ENDED", y.ofQuarrel(1, 5), 0);
        Edges.is("AGE", y.ofQuarrel(1, 6), 0);
        Edges.is("AGE 999", y.change(1, 3, 999), 0);
        Edges.is("AGE 1000", y.change(1, 3, 1000), Due.BEYOND);
        Edges.is("AGE -1", y.change(1, 3, -1), Due.BEYOND);
    }

    private static int gainsOf(int km, int age, String grinds) {
        KnivesGround x = ground(km, 0, grinds);
        x.change(0, 3, age);
        return x.ofQuarrel(0, 7);
    }

    private static void gains() {
        Edges.says(Edges.TERMS, "GAINS (EDGE by grinding; v is what the TEXT gives): QUARREL: v."
            + " GRUDGE: v, and m. SPAT: twice v.");
        Edges.is("QUARREL", gainsOf(9, 0, "31"), 31);
        Edges.is("QUARREL, 0", gainsOf(9, 0, "0"), 0);
        Edges.is("GRUDGE", gainsOf(19, 0, "31"), 40);
        Edges.is("GRUDGE, m 0", gainsOf(10, 0, "31"), 31);
        Edges.is("GRUDGE, 0 and m", gainsOf(19, 0, "0"), 9);
        Edges.is("SPAT", gainsOf(29, 0, "31"), 62);
        Edges.is("SPAT, above 99", gainsOf(29, 0, "99"), 198);
        Edges.says(Edges.TERMS, "FEUD: half (cut) of v.");
        Edges.is("of 0", gainsOf(39, 0, "0"), 0);
        Edges.is("of 1", gainsOf(39, 0, "1"), 0);
        Edges.is("of 2", gainsOf(39, 0, "2"), 1);
        Edges.is("of 99", gainsOf(39, 0, "99"), 49);
        Edges.says(Edges.TERMS, "OLD: as GRUDGE, less AGE by 10 (cut), 0 at least.");
        Edges.is("AGE 0", gainsOf(43, 0, "4"), 7);
        Edges.is("AGE 9", gainsOf(43, 9, "4"), 7);
        Edges.is("AGE 10", gainsOf(43, 10, "4"), 6);
        Edges.is("AGE 69", gainsOf(43, 69, "4"), 1);
        Edges.is("AGE 70", gainsOf(43, 70, "4"), 0);
        Edges.is("AGE 80", gainsOf(43, 80, "4"), 0);
        Edges.is("AGE 999", gainsOf(49, 999, "99"), 9);
        Edges.says(Edges.TERMS, "SULK: as SPAT; 0 in DAYS that 6 divides.");
        KnivesGround x = ground(50, 0, "3");
        for (int day = 0; day < 14; day++) {
            Edges.is("DAY " + day, x.ofQuarrel(0, 7), day == 0 || day == 6 || day == 12 ? 0 : 6);
            x.days(1);
        }
        Edges.says(Edges.TERMS, "WRONG: 0.");
        Edges.is("99", gainsOf(69, 0, "99"), 0);
        KnivesGround y = ground(60, 12, "99");
        y.days(1);
        Edges.is("a DAY", y.ofQuarrel(0, 3), 11);
    }

    private static void needs() {
        Edges.says(Edges.TERMS, "NEEDS (EDGE with which it ends): QUARREL: 50. GRUDGE: that, and twice m. SPAT: 30."
            + " FEUD: 80. OLD: as GRUDGE, and 5. SULK: as SPAT, and m. WRONG: as FEUD, less m.");
        int[] withM0 = {50, 50, 30, 80, 55, 30, 80};
        int[] withM9 = {50, 68, 30, 80, 73, 39, 71};
        for (int kind = 0; kind < 7; kind++) {
            Edges.is("m 0, KIND " + kind, one(KM[kind], 0).ofQuarrel(0, 8), withM0[kind]);
            Edges.is("m 9, KIND " + kind, one(KM[kind] + 9, 0).ofQuarrel(0, 8), withM9[kind]);
            Edges.is("ends, KIND " + kind, one(KM[kind] + 9, withM9[kind]).days(1), 1);
            Edges.is("one less, KIND " + kind, one(KM[kind] + 9, withM9[kind] - 1).days(1), 0);
        }
    }

    private static void dulls() {
        Edges.says(Edges.TERMS, "DULLS (EDGE by a DAY): QUARREL: 3. GRUDGE: that, and 1. SPAT: twice that of a QUARREL."
            + " FEUD: 1. (Others as the KIND above.)");
        int[] dulls = {3, 4, 6, 1, 4, 6, 1};
        for (int kind = 0; kind < 7; kind++) {
            KnivesGround x = one(KM[kind] + 9, 20);
            Edges.is("KIND " + kind, x.ofQuarrel(0, 9), dulls[kind]);
            x.days(1);
            Edges.is("by a DAY, KIND " + kind, x.ofQuarrel(0, 3), 20 - dulls[kind]);
        }
    }

    private static void grinding() {
        Edges.says(Edges.TERMS, "A DAY: (1) THE GRINDER: of each one in his AREA that hasn't ENDED, by numbers,"
            + " EDGE is more by GAINS (held);");
        KnivesGround x = new KnivesGround();
        x.quarrel(30, 0, 10, -1);
        x.quarrel(30, 1, 10, -1);
        x.quarrel(30, 9, 10, -1);
        x.quarrel(30, 0, 10, -1);
        x.change(3, 2, 1);
        x.days(1);
        int[] edges = {19, 9, 9, 10};
        for (int i = 0; i < edges.length; i++) {
            Edges.is("EDGE of " + i, x.ofQuarrel(i, 3), edges[i]);
        }
        // HANGING on one that stays, so that what is held is dulled by 3.
        int[][] held = {{78, 95}, {79, 96}, {80, 96}, {99, 96}};
        for (int[] h : held) {
            KnivesGround y = one(0, 0);
            y.quarrel(0, 0, h[0], 0);
            y.days(1);
            Edges.is("held, from " + h[0], y.ofQuarrel(1, 3), h[1]);
        }
    }

    private static void pence() {
        Edges.says(Edges.TERMS, "PENCE are 3 more (held), also of one that gains nothing.");
        int[][] held = {{0, 3}, {99995, 99998}, {99996, 99999}, {99997, 99999}, {99998, 99999}, {99999, 99999}};
        for (int[] h : held) {
            KnivesGround x = ground(60, 0, "99");
            x.set(3, h[0]);
            x.days(1);
            Edges.is("of a WRONG one, from " + h[0], x.count(5), h[1]);
        }
        KnivesGround y = ground(0, 0, "0");
        y.quarrel(50, 0, 0, -1);
        y.quarrel(0, 1, 0, -1);
        y.quarrel(0, 0, 0, -1);
        y.change(3, 2, 1);
        y.days(1);
        Edges.is("of two that gain nothing, one elsewhere, one that has ended", y.count(5), 6);
    }

    private static void ending() {
        Edges.says(Edges.TERMS, "(2) each one that has not ENDED, by numbers: if EDGE is what it NEEDS, or more,");
        int[] edges = {49, 50, 51, 99};
        for (int edge : edges) {
            Edges.is("EDGE " + edge, one(0, edge).days(1), edge == 49 ? 0 : 1);
        }
        KnivesGround x = ground(0, 29, "20");
        Edges.is("29 and 20 are 49", x.days(1), 0);
        x.change(0, 1, 30);
        Edges.is("30 and 20 are 50", x.days(1), 1);
        Edges.is("an ended one isn't dulled", x.ofQuarrel(0, 3), 50);
        Edges.is("nor older", x.ofQuarrel(0, 6), 1);
        Edges.says(Edges.TERMS, "and it HANGS on none, or on one that has ENDED (by then), it has ENDED;");
        KnivesGround y = one(0, 49);
        y.quarrel(0, 5, 99, 0);
        y.quarrel(0, 5, 99, 1);
        y.quarrel(0, 5, 99, -1);
        Edges.is("on one that has not", y.days(1), 1);
        Edges.is("but the one on none", y.count(6), 8);
        y.change(0, 1, 50);
        Edges.is("by then: all in one DAY", y.days(1), 4);
        KnivesGround z = one(0, 0);
        z.quarrel(0, 5, 50, 0);
        z.change(0, 2, 1);
        Edges.is("on one that had ENDED", z.days(1), 2);
    }

    private static int harmOf(int edge, String harms, int from) {
        KnivesGround x = one(7, edge);
        x.set(2, from);
        x.change(0, 3, 13);
        if (!harms.isEmpty()) {
            Due.text(x, 1, harms);
        }
        x.days(1);
        return x.count(4);
    }

    private static void harm() {
        Edges.says(Edges.TERMS, "else HARM is more by what the other TEXT gives (held),");
        Edges.is("without a TEXT", harmOf(21, "", 100), 108);
        Edges.is("EDGE ahead of dulling, and AGE, and m", harmOf(21, "e+a*2+m", 100), 154);
        Edges.is("none of one that ends", harmOf(50, "99", 100), 100);
        Edges.is("none by 0", harmOf(0, "0", 99999), 99999);
        int[][] held = {{99989, 99998}, {99990, 99999}, {99991, 99999}, {99998, 99999}, {99999, 99999}};
        for (int[] h : held) {
            Edges.is("held, from " + h[0], harmOf(0, "", h[0]), h[1]);
        }
        KnivesGround y = one(0, 0);
        y.change(0, 2, 1);
        y.days(1);
        Edges.is("none of one that had ended", y.count(4), 0);
    }

    private static void dulling() {
        Edges.says(Edges.TERMS, "EDGE is less by what it DULLS (0 at least),");
        int[][] due = {{0, 4, 1}, {0, 3, 0}, {0, 2, 0}, {0, 0, 0}, {20, 7, 1}, {20, 6, 0}, {20, 5, 0}, {10, 3, 0},
            {30, 1, 0}, {30, 0, 0}};
        for (int[] d : due) {
            KnivesGround x = one(d[0], d[1]);
            x.days(1);
            Edges.is("km " + d[0] + ", EDGE " + d[1], x.ofQuarrel(0, 3), d[2]);
        }
        Edges.says(Edges.TERMS, "AGE is 1 more (held).");
        int[][] ages = {{0, 1}, {997, 998}, {998, 999}, {999, 999}};
        for (int[] a : ages) {
            KnivesGround x = one(0, 0);
            x.change(0, 3, a[0]);
            x.days(1);
            Edges.is("AGE " + a[0], x.ofQuarrel(0, 6), a[1]);
        }
    }

    private static void goingOn() {
        Edges.says(Edges.TERMS, "(3) he goes as many AREAS up as STEP, round.");
        KnivesGround x = new KnivesGround();
        for (int area = 0; area < 10; area++) {
            for (int step = 0; step < 10; step++) {
                x.set(0, area);
                x.set(1, step);
                x.days(1);
                int due = area + step > 9 ? area + step - 10 : area + step;
                Edges.is("from " + area + " by " + step, x.count(2), due);
            }
        }
        Edges.says(Edges.TERMS, "DAY is 1 more.");
        Edges.is("a hundred DAYS", x.count(1), 100);
    }

    // ---- promises 1 to 8, 12, 13

    private static void promise1() {
        Edges.says(1, "All as at first; no QUARRELS.");
        KnivesGround x = new KnivesGround();
        int[] counts = {0, 0, 0, 1, 0, 0, 0, 0, 0, 0, 0, 1};
        for (int what = 0; what < counts.length; what++) {
            Edges.is("count " + what, x.count(what), counts[what]);
        }
        for (int sheet = 0; sheet < 4; sheet++) {
            Edges.is("SHEET " + sheet, x.judge(sheet), Due.NONE);
        }
        Edges.is("no QUARREL 0", x.when(0), Due.BEYOND);
        Edges.is("no IMAGE", x.restore(), Due.NONE);
        Edges.is("no number waits", x.check(), 0);
        Edges.is("GRINDS", x.law(0, 0, 0, 0), 20);
        Edges.is("HARMS", x.law(1, 0, 0, 0), 9);
        KnivesGround y = new KnivesGround();
        y.quarrel(0, 0, 0, -1);
        y.seed(7);
        y.set(0, 3);
        Edges.is("another object", new KnivesGround().count(0), 0);
        Edges.is("another's z", new KnivesGround().count(11), 1);
        Edges.is("another's AREA", x.count(2), 0);
    }

    private static void promises2And3() {
        Edges.says(2, "The AREA of THE GRINDER (what 0), STEP (1), HARM (2), PENCE (3) becomes v: what it was.");
        int[] first = {0, 1, 0, 0};
        KnivesGround x = new KnivesGround();
        for (int what = 0; what < 4; what++) {
            Edges.is("what " + what, x.set(what, 6 + what % 2), first[what]);
        }
        for (int what = 0; what < 4; what++) {
            Edges.is("it is so, what " + what, x.count(2 + what), 6 + what % 2);
            Edges.is("as it was, what " + what, x.set(what, 6 + what % 2), 6 + what % 2);
        }
        Edges.says(3, "Those in an AREA, as a set.");
        KnivesGround y = new KnivesGround();
        for (int i = 0; i < 9; i++) {
            y.quarrel(0, i % 2 == 0 ? 9 : 0, 0, -1);
        }
        y.change(8, 2, 1);
        Edges.is("AREA 9", y.inArea(9), 1 + 4 + 16 + 64 + 256);
        Edges.is("AREA 0", y.inArea(0), 2 + 8 + 32 + 128);
        Edges.is("AREA 5, empty", y.inArea(5), 0);
    }

    private static void promise4() {
        Edges.says(4, "A QUARREL (km: 10 times the KIND, and m) in an AREA, with an EDGE, HANGING on one that there is"
            + " (-1: none): its number.");
        KnivesGround x = new KnivesGround();
        Edges.is("on 0 that there isn't", x.quarrel(0, 0, 0, 0), Due.BEYOND);
        Edges.is("the least of each", x.quarrel(0, 0, 0, -1), 0);
        Edges.is("the most of each", x.quarrel(69, 9, 99, 0), 1);
        int[] least = {0, 0, 0, 0, -1};
        int[] most = {6, 9, 9, 99, 0};
        for (int what = 0; what < 5; what++) {
            Edges.is("the least, what " + what, x.ofQuarrel(0, what), least[what]);
            Edges.is("the most, what " + what, x.ofQuarrel(1, what), most[what]);
        }
        Edges.says(4, "FULL.");
        KnivesGround y = new KnivesGround();
        for (int i = 0; i < 9; i++) {
            y.quarrel(0, 0, 0, -1);
        }
        Edges.is("the tenth", y.quarrel(0, 0, 0, 8), Due.FULL);
        Edges.is("again", y.quarrel(0, 0, 0, -1), Due.FULL);
        Edges.is("told", y.told(4), 2);
    }

    private static void promise5() {
        Edges.says(5, "Of a QUARREL: 0 KIND, 1 m, 2 AREA, 3 EDGE, 4 on which it HANGS (-1), 5 whether ENDED, 6 AGE,"
            + " 7 GAINS now, 8 NEEDS, 9 DULLS.");
        KnivesGround x = new KnivesGround();
        x.quarrel(60, 1, 90, -1);
        x.quarrel(47, 8, 33, 0);
        x.change(1, 2, 1);
        x.change(1, 3, 55);
        int[] due = {4, 7, 8, 33, 0, 1, 55, 22, 69, 4};
        for (int what = 0; what < due.length; what++) {
            Edges.is("what " + what, x.ofQuarrel(1, what), due[what]);
        }
        Edges.is("on none", x.ofQuarrel(0, 4), -1);
        // 33 and 55, and 2 by DAY; and m 7, less 5.
        Due.text(x, 0, "e+a-d*10");
        x.change(1, 1, 33);
        Edges.is("GAINS on DAY 0", x.ofQuarrel(1, 7), 90);
        Edges.toDay(x, 6);
        Edges.is("GAINS on DAY 6", x.ofQuarrel(1, 7), 30);
        Edges.toDay(x, 7);
        Edges.is("GAINS on DAY 7", x.ofQuarrel(1, 7), 90);
    }

    private static void promises6To8() {
        Edges.says(6, "AREA (what 0), EDGE (1), ENDED (2: 0, 1), AGE (3) of a QUARREL becomes v: what it was.");
        KnivesGround x = new KnivesGround();
        x.quarrel(0, 3, 44, -1);
        int[] of = {2, 3, 5, 6};
        int[] first = {3, 44, 0, 0};
        int[] most = {9, 99, 1, 999};
        for (int what = 0; what < 4; what++) {
            Edges.is("to the most, what " + what, x.change(0, what, most[what]), first[what]);
            Edges.is("the most, what " + what, x.ofQuarrel(0, of[what]), most[what]);
            Edges.is("to the least, what " + what, x.change(0, what, 0), most[what]);
            Edges.is("the least, what " + what, x.ofQuarrel(0, of[what]), 0);
        }
        Edges.says(7, "A QUARREL becomes one of a KIND, with m (km): the KIND that it was.");
        Edges.is("to the most", x.become(0, 69), 0);
        Edges.is("KIND 6", x.ofQuarrel(0, 0), 6);
        Edges.is("m 9", x.ofQuarrel(0, 1), 9);
        Edges.is("to the least", x.become(0, 0), 6);
        Edges.is("KIND 0", x.ofQuarrel(0, 0), 0);
        Edges.is("m 0", x.ofQuarrel(0, 1), 0);
        Edges.says(8, "A QUARREL as one of a KIND: m.");
        x.become(0, 69);
        Edges.is("as WRONG", x.as(0, 6), 9);
        Edges.is("as FEUD", x.as(0, 3), 9);
        Edges.is("as QUARREL", x.as(0, 0), 9);
        Edges.says(8, "KIND: it isn't of that KIND, nor of one under it.");
        Edges.is("WRONG as SULK", x.as(0, 5), Due.KIND);
        Edges.is("WRONG as GRUDGE", x.as(0, 1), Due.KIND);
        x.become(0, 39);
        Edges.is("FEUD as WRONG, the KIND under it", x.as(0, 6), Due.KIND);
        Edges.is("FEUD as SPAT, beside it", x.as(0, 2), Due.KIND);
        x.become(0, 9);
        Edges.is("QUARREL as GRUDGE", x.as(0, 1), Due.KIND);
    }

    private static void promises12And13() {
        Edges.says(12, "n (1 to 60) DAYS: how many have ENDED then.");
        KnivesGround x = one(0, 50);
        x.quarrel(0, 5, 0, -1);
        x.quarrel(0, 5, 0, -1);
        x.change(1, 2, 1);
        Edges.is("one DAY, with one that had", x.days(1), 2);
        Edges.is("sixty DAYS", x.days(60), 2);
        Edges.is("DAY 61", x.count(1), 61);
        Edges.is("AGE 61", x.ofQuarrel(2, 6), 61);
        Edges.is("no DAYS", x.days(0), Due.BEYOND);
        Edges.is("61 DAYS", x.days(61), Due.BEYOND);
        Edges.is("DAY stays", x.count(1), 61);
        Edges.says(12, "STATE: DAY would be above 9999.");
        KnivesGround y = Edges.toDay(new KnivesGround(), 9940);
        Edges.is("60 DAYS would be 10000", y.days(60), Due.STATE);
        Edges.is("not one of them", y.count(1), 9940);
        Edges.is("59 DAYS are 9999", y.days(59), 0);
        Edges.is("DAY 9999", y.count(1), 9999);
        Edges.is("one more", y.days(1), Due.STATE);
        Edges.says(13, "n (1 to 40) DAYS by draws: likewise.");
        KnivesGround z = one(0, 50);
        z.quarrel(0, 5, 0, -1);
        z.change(1, 2, 1);
        Edges.is("one DAY, with one that had", z.loose(1), 2);
        Edges.is("forty DAYS", z.loose(40), 2);
        Edges.is("DAY 41", z.count(1), 41);
        Edges.is("no DAYS", z.loose(0), Due.BEYOND);
        Edges.is("41 DAYS", z.loose(41), Due.BEYOND);
        Edges.is("DAY stays", z.count(1), 41);
        KnivesGround draws = new KnivesGround();
        draws.quarrel(0, 0, 10, -1);
        draws.quarrel(20, 5, 6, -1);
        draws.loose(1);
        // 10 and 20 do 7, 6 does 9.
        Edges.is("HARM by a draw", draws.count(4), 16);
        Edges.is("PENCE by a draw", draws.count(5), 3);
        Edges.is("EDGES by a draw", draws.ofQuarrel(0, 3) * 100 + draws.ofQuarrel(1, 3), 2700);
        Edges.is("AGES by a draw", draws.ofQuarrel(0, 6) + draws.ofQuarrel(1, 6), 2);
        Edges.says(13, "STATE: DAY would be above 9999.");
        KnivesGround w = Edges.toDay(new KnivesGround(), 9960);
        Edges.is("40 DAYS would be 10000", w.loose(40), Due.STATE);
        Edges.is("no draw", w.count(11), 1);
        Edges.is("STEP stays", w.count(3), 1);
        Edges.is("39 DAYS are 9999", w.loose(39), 0);
        Edges.is("DAY 9999", w.count(1), 9999);
        Edges.is("one more", w.loose(1), Due.STATE);
    }
}
