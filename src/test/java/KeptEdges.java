/** Terms 3 from the draws on, Terms 4, and promises 29 to 42, sentence by sentence. */
final class KeptEdges {
    private KeptEdges() {
    }

    static void all() {
        draws();
        voices();
        bodies();
        superBodies();
        trace();
        sheets();
        seed();
        sheet();
        put();
        move();
        moveBeyond();
        edges();
        judge();
        image();
        restore();
        tell();
        check();
        count();
        told();
    }

    /** As many QUARRELS as told, each in AREA 5 with EDGE 0, THE GRINDER in AREA 0. */
    private static KnivesGround quarrels(int many) {
        KnivesGround x = new KnivesGround();
        x.set(1, 0);
        for (int i = 0; i < many; i++) {
            x.quarrel(0, 5, 0, -1);
        }
        return x;
    }

    private static void row(KnivesGround x, int sheet, int bits, int... numbers) {
        x.sheet(sheet, bits, numbers.length);
        for (int i = 0; i < numbers.length; i++) {
            x.put(sheet, i, numbers[i]);
        }
    }

    /** Whether a SHEET has just these numbers, told by the AGES of as many QUARRELS. */
    private static int has(KnivesGround x, int sheet, int... numbers) {
        for (int i = 0; i < numbers.length; i++) {
            x.change(i, 3, numbers[i]);
        }
        return x.judge(sheet) == -1 ? 1 : 0;
    }

    // ---- draws

    private static void draws() {
        Edges.says(Edges.TERMS, "DAYS by draws: z is told (1 at first);");
        KnivesGround x = new KnivesGround();
        Edges.is("z", x.count(11), 1);
        Edges.says(Edges.TERMS, "each makes it z * 1103515245 + 12345 (an int), and gives z >>> 8.");
        // The same in longs, cut to 32 bits.
        int[] seeds = {1, 0, -1, 5, 65536, Integer.MAX_VALUE, Integer.MIN_VALUE, -77};
        for (int seed : seeds) {
            long z = seed;
            x.seed(seed);
            for (int i = 0; i < 20; i++) {
                z = (z * 1103515245L + 12345L) & 0xffffffffL;
                x.loose(1);
                Edges.is("z of " + seed + ", draw " + i, x.count(11), (int) z);
                Edges.is("STEP of " + seed + ", draw " + i, x.count(3), z / 256 % 10);
            }
        }
        Edges.says(Edges.TERMS, "Each: a draw: STEP is its rest by 10; then a DAY.");
        KnivesGround y = new KnivesGround();
        y.set(1, 9);
        y.quarrel(0, 0, 30, -1);
        // 1103527590 >>> 8 is 4310654
        Edges.is("he grinds, then goes", y.loose(1), 1);
        Edges.is("STEP 4", y.count(3), 4);
        Edges.is("AREA 4", y.count(2), 4);
        Edges.is("DAY 1", y.count(1), 1);
        Edges.is("two are two times one", y.loose(2), 1);
        Edges.is("DAY 3", y.count(1), 3);
        KnivesGround z = new KnivesGround();
        for (int i = 0; i < 3; i++) {
            z.loose(1);
        }
        Edges.is("z behind three", y.count(11), z.count(11));
        Edges.is("AREA behind three", y.count(2), z.count(2));
    }

    private static void seed() {
        Edges.says(29, "z becomes v: what it was (any number).");
        KnivesGround x = new KnivesGround();
        Edges.is("at first", x.seed(-1000000001), 1);
        Edges.is("that is BEYOND's number", x.seed(Integer.MIN_VALUE), -1000000001);
        Edges.is("the least", x.seed(Integer.MAX_VALUE), Integer.MIN_VALUE);
        Edges.is("the most", x.seed(0), Integer.MAX_VALUE);
        Edges.is("no ERROR", x.told(1), 0);
        Edges.is("z", x.count(11), 0);
    }

    // ---- voices

    /** Of a QUARREL 2 with a km. */
    private static int voice(int km, int act, int x) {
        KnivesGround g = quarrels(3);
        g.become(2, km);
        return g.voice(2, act, x);
    }

    private static void voices() {
        Edges.says(Edges.TERMS, "VOICES of a QUARREL, with a number x (ints that go round); n is the number,"
            + " m as told: 0 grinds, 1 cuts, 2 sparks, 3 tells.");
        int most = Integer.MAX_VALUE;
        int least = Integer.MIN_VALUE;
        Edges.is("grinds", voice(7, 0, 10), 12);
        Edges.is("cuts", voice(7, 1, 10), 24);
        Edges.is("sparks", voice(7, 2, 10), 3);
        Edges.is("tells", voice(7, 3, 10), 24 ^ 3);
        Edges.is("grinds of the most", voice(7, 0, most), least + 1);
        Edges.is("cuts of the most", voice(7, 1, most), 2);
        Edges.is("sparks of the least", voice(7, 2, least), most - 6);
        Edges.is("grinds of the least", voice(7, 0, least), least + 2);
        Edges.is("GRUDGE grinds the most", voice(17, 0, most), least + 3);
        Edges.is("SULK cuts the most", voice(57, 1, most), 4 + 6);
        Edges.is("FEUD sparks the least and 7", voice(37, 2, least + 7), least);
        Edges.says(30, "A VOICE of a QUARREL: any number.");
        Edges.is("that is BEYOND's", voice(0, 0, Due.BEYOND - 2), Due.BEYOND);
        KnivesGround x = quarrels(1);
        x.voice(0, 0, Due.BEYOND);
        Edges.is("no ERROR", x.told(1), 0);
    }

    private static void bodies() {
        Edges.says(Edges.TERMS, "BODIES: QUARREL: 10 grinds: x + n. 11 cuts: grinds(x) * 2. 12 sparks: x - m."
            + " 13 tells: cuts(x) ^ sparks(x). GRUDGE: 20 grinds: super.grinds(x) * 3."
            + " SPAT: 30 cuts: super.cuts(x) - sparks(1). FEUD: 40 sparks: -super.sparks(x)."
            + " OLD: 50 tells: super.tells(x) - grinds(2). SULK: 60 cuts: super.cuts(x + 1)."
            + " WRONG: 70 sparks: super.sparks(x) ^ n. 71 tells: cuts(x) - super.tells(x).");
        // n 2, m 7, x 10; sparks 3, -3, -3 ^ 2 = -1.
        int[][] due = {{12, 24, 3, 27}, {36, 72, 3, 75}, {12, 30, 3, 29}, {12, 24, -3, 24 ^ -3}, {36, 72, 3, 75 - 12},
            {12, 32, 3, 32 ^ 3}, {12, 24, -1, 24 - (24 ^ -1)}};
        for (int kind = 0; kind < 7; kind++) {
            for (int act = 0; act < 4; act++) {
                Edges.is("KIND " + kind + " act " + act, voice(10 * kind + 7, act, 10), due[kind][act]);
            }
        }
        Edges.is("WRONG sparks 9: -2 ^ 2", voice(67, 2, 9), -4);
        Edges.is("WRONG tells 12: sparks -5 ^ 2 are -7", voice(67, 3, 12), 28 - (28 ^ -7));
    }

    private static void traceIs(String what, KnivesGround x, int... bodies) {
        Edges.is(what + ", how many", x.count(10), bodies.length);
        for (int i = 0; i < bodies.length; i++) {
            Edges.is(what + ", " + i, x.trace(i), bodies[i]);
        }
    }

    private static void superBodies() {
        Edges.says(Edges.TERMS, "grinds(..) is the BODY of its KIND, or of the next KIND above that has one;"
            + " super.grinds(..) that from the KIND above the BODY's on.");
        KnivesGround x = quarrels(1);
        int[][] acts = {{40, 0}, {50, 2}, {60, 0}, {40, 1}, {60, 1}, {50, 0}, {60, 2}, {50, 1}};
        int[][] bodies = {{20, 10}, {12}, {10}, {11, 20, 10}, {11, 10}, {10}, {70, 40, 12}, {60, 30, 11, 10, 12}};
        for (int i = 0; i < acts.length; i++) {
            x.become(0, acts[i][0]);
            x.voice(0, acts[i][1], 3);
            traceIs("km " + acts[i][0] + " act " + acts[i][1], x, bodies[i]);
        }
    }

    private static void trace() {
        Edges.says(Edges.TERMS, "THE TRACE: the numbers of BODIES of the latest voice(), as they began"
            + " (what stands left is worked out first), the first 40.");
        KnivesGround x = quarrels(1);
        int[][] bodies = {{13, 11, 10, 12}, {13, 11, 20, 10, 12}, {13, 30, 11, 10, 12, 12}, {13, 11, 10, 40, 12},
            {50, 13, 11, 20, 10, 12, 20, 10}, {13, 60, 30, 11, 10, 12, 12}, {71, 11, 10, 13, 11, 10, 70, 40, 12}};
        for (int kind = 0; kind < 7; kind++) {
            x.become(0, 10 * kind);
            x.voice(0, 3, 1);
            traceIs("of the latest, KIND " + kind + " tells", x, bodies[kind]);
        }
        Edges.says(31, "THE TRACE's i-th.");
        Edges.is("the first", x.trace(0), 71);
        Edges.is("the last", x.trace(8), 12);
        Edges.says(31, "NONE: there is none such.");
        Edges.is("one behind", x.trace(9), Due.NONE);
        Edges.is("-1", x.trace(-1), Due.NONE);
        Edges.is("40", x.trace(40), Due.NONE);
        Edges.is("the most", x.trace(Integer.MAX_VALUE), Due.NONE);
        Edges.is("the least", x.trace(Integer.MIN_VALUE), Due.NONE);
        Edges.is("told", x.told(2), 5);
        Edges.is("ahead of any voice()", new KnivesGround().trace(0), Due.NONE);
        x.voice(0, 9, 0);
        Edges.is("a refused voice() leaves it", x.count(10), 9);
    }

    // ---- sheets

    private static void sheets() {
        Edges.says(Edges.TERMS, "4. SHEETS 0 .. 3 are rows of 8, 16, 32 bits, at most 40 numbers, or missing"
            + " (as at first).");
        KnivesGround x = new KnivesGround();
        for (int sheet = 0; sheet < 4; sheet++) {
            Edges.is("missing at first " + sheet, x.put(sheet, 0, 0), Due.NONE);
        }
        int[] bits = {8, 16, 32};
        for (int sheet = 0; sheet < 4; sheet++) {
            for (int b : bits) {
                Edges.is("40 of " + b + " bits", x.sheet(sheet, b, 40), 1);
                Edges.is("the last of 40", x.put(sheet, 39, 1), 1);
                Edges.is("41 of " + b + " bits", x.sheet(sheet, b, 41), Due.BEYOND);
            }
        }
        Edges.is("SHEET 4", x.sheet(4, 8, 1), Due.BEYOND);
        Edges.is("SHEET -1", x.sheet(-1, 8, 1), Due.BEYOND);
    }

    private static void sheet() {
        Edges.says(32, "A SHEET has n numbers, all 0, of so many bits (8, 16, 32; 0: it is missing, n doesn't matter):"
            + " 1.");
        KnivesGround x = quarrels(2);
        row(x, 0, 8, 7, 8);
        Edges.is("anew", x.sheet(0, 8, 2), 1);
        Edges.is("all 0", has(x, 0, 0, 0), 1);
        row(x, 0, 8, 7, 8);
        Edges.is("of other bits", x.sheet(0, 16, 2), 1);
        Edges.is("all 0 again", has(x, 0, 0, 0), 1);
        row(x, 0, 8, 7, 8);
        Edges.is("no numbers", x.sheet(0, 8, 0), 1);
        Edges.is("not missing, but none", x.put(0, 0, 1), Due.BEYOND);
        Edges.is("two again", x.sheet(0, 8, 2), 1);
        Edges.is("all 0 once more", has(x, 0, 0, 0), 1);
        int[] any = {0, -1, 41, Integer.MIN_VALUE, Integer.MAX_VALUE};
        for (int n : any) {
            Edges.is("missing, n " + n, x.sheet(0, 0, n), 1);
            Edges.is("it is missing", x.put(0, 0, 1), Due.NONE);
            Edges.is("one of one that was", x.sheet(0, 32, 1), 1);
        }
        int[] wrong = {1, 7, 9, 15, 24, 64, -8, Integer.MAX_VALUE, Integer.MIN_VALUE};
        for (int bits : wrong) {
            Edges.is("bits " + bits, x.sheet(0, bits, 1), Due.BEYOND);
        }
        Edges.says(32, "STATE: n is below 0 (ahead of BEYOND of n).");
        Edges.is("n -1", x.sheet(0, 8, -1), Due.STATE);
        Edges.is("n far below", x.sheet(0, 32, Integer.MIN_VALUE), Due.STATE);
        Edges.is("n far above", x.sheet(0, 32, Integer.MAX_VALUE), Due.BEYOND);
        Edges.is("no such SHEET, n -1", x.sheet(4, 8, -1), Due.BEYOND);
        Edges.is("no such bits, n -1", x.sheet(0, 7, -1), Due.BEYOND);
        Edges.is("it stays", x.put(0, 0, 1), 1);
    }

    private static void put() {
        Edges.says(33, "Number i of a SHEET becomes v (its lowest bits): 1.");
        KnivesGround x = quarrels(3);
        row(x, 0, 8, 0, 0, 0);
        row(x, 1, 16, 0, 0, 0);
        row(x, 2, 32, 0, 0, 0);
        Edges.is("8 bits", x.put(0, 1, 127), 1);
        Edges.is("127", has(x, 0, 0, 127, 0), 1);
        Edges.is("8 bits of 256 and 5", x.put(0, 1, 261), 1);
        Edges.is("5", has(x, 0, 0, 5, 0), 1);
        Edges.is("8 bits of 6 less 256", x.put(0, 2, -250), 1);
        Edges.is("6", has(x, 0, 0, 5, 6), 1);
        Edges.is("16 bits", x.put(1, 0, 999), 1);
        Edges.is("999", has(x, 1, 999, 0, 0), 1);
        Edges.is("16 bits of 65536 and 300", x.put(1, 0, 65836), 1);
        Edges.is("300", has(x, 1, 300, 0, 0), 1);
        Edges.is("16 bits of the least and 9", x.put(1, 2, Integer.MIN_VALUE + 9), 1);
        Edges.is("9", has(x, 1, 300, 0, 9), 1);
        Edges.is("32 bits of 65536 and 300", x.put(2, 0, 65836), 1);
        Edges.is("not 300", has(x, 2, 300, 0, 0), 0);
        Edges.is("32 bits", x.put(2, 0, 300), 1);
        Edges.is("it is 300", has(x, 2, 300, 0, 0), 1);
        Edges.says(33, "BEYOND: no such SHEET.");
        Edges.is("4", x.put(4, 0, 0), Due.BEYOND);
        Edges.is("-1", x.put(-1, 0, 0), Due.BEYOND);
        Edges.is("far", x.put(Integer.MIN_VALUE, 0, 0), Due.BEYOND);
        Edges.says(33, "NONE: it is missing.");
        Edges.is("3", x.put(3, 0, 0), Due.NONE);
        Edges.is("ahead of no such number", x.put(3, -1, 0), Due.NONE);
        Edges.says(33, "BEYOND: no such number.");
        Edges.is("3 of three", x.put(0, 3, 0), Due.BEYOND);
        Edges.is("-1 of three", x.put(0, -1, 0), Due.BEYOND);
        Edges.is("far above", x.put(0, Integer.MAX_VALUE, 0), Due.BEYOND);
        Edges.is("far below", x.put(0, Integer.MIN_VALUE, 0), Due.BEYOND);
        x.sheet(0, 8, 0);
        Edges.is("0 of none", x.put(0, 0, 0), Due.BEYOND);
    }

    private static void move() {
        Edges.says(34, "n numbers of a SHEET, from number i on, come to another one (or the same),"
            + " from its number j on, as they all were: n.");
        KnivesGround x = quarrels(5);
        int[] bits = {8, 16, 32};
        for (int b : bits) {
            row(x, 0, b, 1, 2, 3, 4, 5);
            row(x, 1, b, 6, 7, 8);
            Edges.is("to another, " + b, x.move(1, 1, 0, 3, 2), 2);
            Edges.is("from 1 on to 3 on, " + b, has(x, 0, 1, 2, 3, 7, 8), 1);
            Edges.is("up in the same, " + b, x.move(0, 0, 0, 1, 4), 4);
            Edges.is("as they all were, up, " + b, has(x, 0, 1, 1, 2, 3, 7), 1);
            Edges.is("down in the same, " + b, x.move(0, 1, 0, 0, 4), 4);
            Edges.is("as they all were, down, " + b, has(x, 0, 1, 2, 3, 7, 7), 1);
            Edges.is("to the same place, " + b, x.move(0, 2, 0, 2, 3), 3);
            Edges.is("none, " + b, x.move(1, 0, 0, 0, 0), 0);
            Edges.is("none from and to the end, " + b, x.move(1, 3, 0, 5, 0), 0);
            Edges.is("it is as it was, " + b, has(x, 0, 1, 2, 3, 7, 7), 1);
        }
        KnivesGround y = quarrels(1);
        row(y, 0, 8, new int[40]);
        row(y, 1, 8, new int[40]);
        Edges.is("all forty", y.move(0, 0, 1, 0, 40), 40);
        Edges.is("forty to themselves", y.move(0, 0, 0, 0, 40), 40);
        Edges.is("forty-one", y.move(0, 0, 1, 0, 41), Due.BEYOND);
    }

    private static void moveBeyond() {
        KnivesGround x = quarrels(3);
        row(x, 0, 8, 1, 2, 3);
        row(x, 1, 8, 4, 5);
        row(x, 2, 16, 7, 8, 9);
        int most = Integer.MAX_VALUE;
        Edges.says(34, "BEYOND: no such SHEET.");
        Edges.is("4", x.move(4, 0, 0, 0, 1), Due.BEYOND);
        Edges.is("-1", x.move(-1, 0, 0, 0, 1), Due.BEYOND);
        Edges.is("the other 4", x.move(0, 0, 4, 0, 1), Due.BEYOND);
        Edges.is("the other -1", x.move(0, 0, -1, 0, 1), Due.BEYOND);
        Edges.is("ahead of NONE", x.move(3, 0, 4, 0, 1), Due.BEYOND);
        Edges.is("ahead of NONE of the other", x.move(4, 0, 3, 0, 1), Due.BEYOND);
        Edges.says(34, "NONE: one is missing.");
        Edges.is("the one", x.move(3, 0, 0, 0, 1), Due.NONE);
        Edges.is("the other", x.move(0, 0, 3, 0, 1), Due.NONE);
        Edges.is("both", x.move(3, 0, 3, 0, 0), Due.NONE);
        Edges.is("ahead of BEYOND", x.move(3, -1, 0, 0, -1), Due.NONE);
        Edges.says(34, "KIND: they are of unlike bits.");
        Edges.is("8 and 16", x.move(0, 0, 2, 0, 1), Due.KIND);
        Edges.is("16 and 8", x.move(2, 0, 0, 0, 0), Due.KIND);
        Edges.is("ahead of BEYOND", x.move(0, 0, 2, 9, -1), Due.KIND);
        Edges.says(34, "BEYOND: n, i, or j is below 0, or they don't stand there.");
        int[][] wrong = {{0, 0, -1}, {-1, 0, 1}, {0, -1, 1}, {-1, 0, 0}, {0, -1, 0}, {0, 0, 3}, {2, 0, 2}, {3, 0, 1},
            {0, 2, 1}, {0, 1, 2}, {4, 0, 0}, {0, 3, 0}, {most, 0, 1}, {0, most, 1}, {0, 0, most}, {1, 1, most},
            {most, most, most}, {Integer.MIN_VALUE, 0, 0}, {0, Integer.MIN_VALUE, 0}, {0, 0, Integer.MIN_VALUE}};
        for (int[] w : wrong) {
            Edges.is("i " + w[0] + ", j " + w[1] + ", n " + w[2], x.move(0, w[0], 1, w[1], w[2]), Due.BEYOND);
        }
        Edges.is("not one moved", has(x, 0, 1, 2, 3), 1);
    }

    private static void edges() {
        Edges.says(35, "Numbers of a SHEET become EDGES of QUARRELS 0, 1, ..: how many, up to the first that is not"
            + " 0 to 99 (no ERROR then), or for which there is no QUARREL.");
        KnivesGround x = quarrels(3);
        row(x, 0, 8, 0, 99, 50);
        Edges.is("all of them", x.edges(0), 3);
        Edges.is("EDGE 0", x.ofQuarrel(0, 3), 0);
        Edges.is("EDGE 99", x.ofQuarrel(1, 3), 99);
        Edges.is("EDGE 50", x.ofQuarrel(2, 3), 50);
        row(x, 1, 16, 1, 100, 2);
        Edges.is("up to 100", x.edges(1), 1);
        Edges.is("0, 99, 50 are 1, 99, 50", x.count(7), 150);
        row(x, 1, 32, 2, 3, -1);
        Edges.is("up to -1", x.edges(1), 2);
        Edges.is("2, 3, 50", x.count(7), 55);
        row(x, 1, 8, -1, 3, 4);
        Edges.is("not the first", x.edges(1), 0);
        Edges.is("2, 3, 50 still", x.count(7), 55);
        row(x, 1, 32, 7, 8, 9, 10, 11);
        Edges.is("for the fourth there is no QUARREL", x.edges(1), 3);
        row(x, 1, 32, 1, 1);
        Edges.is("fewer numbers", x.edges(1), 2);
        Edges.is("the last stays", x.ofQuarrel(2, 3), 9);
        x.sheet(1, 8, 0);
        Edges.is("no numbers", x.edges(1), 0);
        Edges.is("no QUARRELS", noQuarrels(2).edges(0), 0);
        Edges.is("no ERROR", x.told(1) + x.told(2), 0);
        x.change(0, 2, 1);
        row(x, 1, 8, 77);
        Edges.is("of an ended one, too", x.edges(1) * 100 + x.ofQuarrel(0, 3), 177);
        Edges.says(35, "BEYOND: no such SHEET.");
        Edges.is("4", x.edges(4), Due.BEYOND);
        Edges.is("-1", x.edges(-1), Due.BEYOND);
        Edges.says(35, "NONE: it is missing.");
        Edges.is("3", x.edges(3), Due.NONE);
        Edges.is("of no QUARRELS", new KnivesGround().edges(0), Due.NONE);
    }

    private static KnivesGround noQuarrels(int numbers) {
        KnivesGround x = new KnivesGround();
        x.sheet(0, 8, numbers);
        return x;
    }

    private static void judge() {
        Edges.says(36, "Numbers of a SHEET are AGES of QUARRELS 0, 1, ..: the first that isn't so"
            + " (one that lacks, or is too many, too);");
        KnivesGround x = quarrels(3);
        x.change(0, 3, 999);
        x.change(2, 3, 7);
        row(x, 0, 16, 998, 0, 8);
        Edges.is("0 and 2 aren't", x.judge(0), 0);
        row(x, 0, 16, 999, 0, 8);
        Edges.is("2 isn't", x.judge(0), 2);
        row(x, 0, 16, 999, 0);
        Edges.is("one lacks", x.judge(0), 2);
        row(x, 0, 16, 999, 1);
        Edges.is("one isn't, one lacks", x.judge(0), 1);
        x.sheet(0, 16, 0);
        Edges.is("all lack", x.judge(0), 0);
        row(x, 0, 16, 999, 0, 7, 0);
        Edges.is("one is too many", x.judge(0), 3);
        row(x, 0, 16, 999, 0, 6, 0);
        Edges.is("one isn't, one is too many", x.judge(0), 2);
        Edges.is("one is too many for no QUARRELS", noQuarrels(1).judge(0), 0);
        Edges.says(36, "-1: all are.");
        row(x, 0, 16, 999, 0, 7);
        Edges.is("three", x.judge(0), -1);
        Edges.is("none of no QUARRELS", noQuarrels(0).judge(0), -1);
        Edges.says(36, "BEYOND: no such SHEET.");
        Edges.is("4", x.judge(4), Due.BEYOND);
        Edges.is("-1", x.judge(-1), Due.BEYOND);
        Edges.says(36, "NONE: it is missing.");
        Edges.is("3", x.judge(3), Due.NONE);
    }

    // ---- images, what is told

    private static void image() {
        Edges.says(37, "All (but SHEETS, THE TRACE, what told() tells, and how often this was done) is kept"
            + " as an IMAGE, in place of one ahead: how often that was done.");
        KnivesGround x = Twin.some();
        Edges.is("in place of one ahead", x.image(), 2);
        int day = x.count(1);
        x.days(9);
        x.quarrel(0, 0, 0, -1);
        x.set(0, 0);
        x.set(2, 1);
        x.set(3, 1);
        x.text(0);
        Due.text(x, 1, "7");
        x.tell(8);
        x.seed(3);
        x.become(0, 33);
        Edges.is("the later one", x.restore(), day);
        KnivesGround y = Twin.some();
        y.image();
        Edges.is("all of it", Twin.probe(x).equals(Twin.probe(y)) ? 1 : 0, 1);
        KnivesGround z = quarrels(1);
        z.change(0, 3, 5);
        z.image();
        row(z, 0, 8, 5);
        z.voice(0, 3, 1);
        z.count(12);
        z.restore();
        Edges.is("but SHEETS", z.judge(0), -1);
        Edges.is("but THE TRACE", z.trace(3), 12);
        Edges.is("but what told() tells", z.told(1), 1);
        Edges.is("but how often", z.image(), 2);
        z.sheet(0, 0, 0);
        z.restore();
        Edges.is("not even a missing SHEET", z.judge(0), Due.NONE);
    }

    private static void restore() {
        Edges.says(38, "All is as the IMAGE has it, which stays: DAY.");
        KnivesGround x = quarrels(2);
        x.days(60);
        x.image();
        for (int i = 0; i < 3; i++) {
            x.days(7);
            x.quarrel(0, 0, 0, -1);
            x.tell(1);
            x.feed('e', 1);
            Due.is("P38 gone on", x.count(1), 67);
            Edges.is("DAY", x.restore(), 60);
            Edges.is("DAY it is", x.count(1), 60);
            Edges.is("QUARRELS", x.count(0), 2);
            Edges.is("no number waits", x.count(9), 0);
            Edges.is("no byte", x.count(8), 0);
        }
        KnivesGround y = new KnivesGround();
        y.image();
        y.quarrel(0, 0, 30, -1);
        y.quarrel(0, 5, 0, 0);
        y.days(1);
        Edges.is("of a new object", y.restore(), 0);
        Edges.is("no QUARRELS", y.count(0), 0);
        Edges.is("no QUARREL 0", y.ofQuarrel(0, 0), Due.BEYOND);
        y.quarrel(0, 0, 7, -1);
        y.quarrel(0, 0, 7, -1);
        Edges.is("a new one has not ENDED", y.ofQuarrel(0, 5), 0);
        Edges.is("a new one's AGE", y.ofQuarrel(1, 6), 0);
        Edges.is("a new one HANGS on none", y.ofQuarrel(1, 4), -1);
        KnivesGround w = quarrels(1);
        w.tell(0);
        w.tell(0);
        w.image();
        w.check();
        w.tell(5);
        w.tell(5);
        w.restore();
        Edges.is("two numbers wait", w.count(9), 2);
        Edges.is("those that did", w.check(), 0);
        Edges.says(38, "NONE: there is none.");
        KnivesGround z = Edges.toDay(new KnivesGround(), 3);
        Edges.is("at first", z.restore(), Due.NONE);
        Edges.is("DAY stays", z.count(1), 3);
        Edges.is("an image now", z.image(), 1);
        Edges.is("there is one", z.restore(), 3);
    }

    private static void tell() {
        Edges.says(39, "One more number waits: how many.");
        KnivesGround x = quarrels(1);
        for (int i = 1; i <= 20; i++) {
            Edges.is("number " + i, x.tell(0), i);
        }
        Edges.says(39, "FULL: 20 wait.");
        Edges.is("the 21st", x.tell(9), Due.FULL);
        Edges.is("20 wait", x.count(9), 20);
        Edges.is("the 21st isn't looked at", x.check(), 0);
        Edges.is("there is room again", x.tell(Integer.MIN_VALUE), 1);
        Edges.is("any number", x.tell(Integer.MAX_VALUE), 2);
    }

    private static void check() {
        Edges.says(40, "The numbers that wait (none do then) are how many have ENDED behind 1, 2, .. DAYS: 0;"
            + " else 1 and the place (from 0) of the first that isn't so.");
        KnivesGround x = quarrels(3);
        x.change(2, 2, 1);
        x.change(1, 1, 50);
        x.change(0, 0, 0);
        // EDGE 12 of 0: 32 less 3, and 20, is 49; 46, and 20.
        x.change(0, 1, 12);
        int[][] told = {{}, {2}, {2, 2, 3}, {1}, {2, 3}, {2, 2, 2}, {3, 3, 3}};
        int[] due = {0, 0, 0, 1, 2, 3, 1};
        for (int i = 0; i < told.length; i++) {
            for (int t : told[i]) {
                x.tell(t);
            }
            Edges.is(i + " are told", x.check(), due[i]);
            Edges.is(i + ", none wait then", x.count(9), 0);
        }
        for (int i = 0; i < 20; i++) {
            x.tell(i < 2 ? 2 : i < 19 ? 3 : 4);
        }
        Edges.is("the last of 20", x.check(), 20);
        Edges.is("DAY stays", x.count(1), 0);
        x.tell(-1);
        Edges.is("a wrong number", x.check(), 1);
        KnivesGround y = Edges.toDay(new KnivesGround(), 9999);
        y.tell(0);
        Edges.is("beyond DAY 9999", y.check(), 0);
    }

    private static void count() {
        Edges.says(41, "0 QUARRELS, 1 DAY, 2 the AREA of THE GRINDER, 3 STEP, 4 HARM, 5 PENCE, 6 those that have ENDED,"
            + " as a set, 7 EDGES of all together, 8 bytes of THE TAPE, 9 numbers that wait, 10 BODIES in THE TRACE,"
            + " 11 z (any number).");
        KnivesGround x = quarrels(9);
        for (int i = 0; i < 9; i++) {
            x.change(i, 1, 99);
        }
        x.change(3, 2, 1);
        x.days(1);
        x.change(8, 2, 0);
        x.set(0, 9);
        x.set(1, 8);
        x.set(2, 99999);
        x.set(3, 99998);
        x.feed(0, 8);
        x.tell(0);
        x.become(0, 60);
        x.voice(0, 3, 0);
        x.seed(Due.NONE);
        int[] due = {9, 1, 9, 8, 99999, 99998, 255, 891, 8, 1, 9, Due.NONE};
        for (int what = 0; what < due.length; what++) {
            Edges.is("what " + what, x.count(what), due[what]);
        }
        Edges.is("z is no ERROR", x.told(2), 0);
    }

    private static void told() {
        Edges.says(42, "How many acts have answered an ERROR LOW - k (k 1 .. 5);");
        KnivesGround x = quarrels(9);
        for (int k = 1; k <= 5; k++) {
            Edges.is("at first " + k, x.told(k), 0);
        }
        x.set(0, 10);
        x.trace(0);
        x.trace(0);
        x.sheet(0, 8, -1);
        x.sheet(0, 8, -1);
        x.sheet(0, 8, -1);
        for (int i = 0; i < 4; i++) {
            x.quarrel(0, 0, 0, -1);
        }
        for (int i = 0; i < 5; i++) {
            x.as(0, 6);
        }
        for (int k = 1; k <= 5; k++) {
            Edges.is("ERROR " + k, x.told(k), k);
            Edges.is("ERROR " + k + " isn't more by telling", x.told(k), k);
        }
        Edges.says(42, "BEYOND: another k (counted, too).");
        int[] others = {0, 6, -1, Integer.MAX_VALUE, Integer.MIN_VALUE};
        for (int i = 0; i < others.length; i++) {
            Edges.is("k " + others[i], x.told(others[i]), Due.BEYOND);
            Edges.is("counted, too", x.told(1), 2 + i);
        }
    }
}
