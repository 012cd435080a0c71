/** Promises 29 to 42: draws, voices, sheets, images, what is told. */
public final class KeptTests {
    public static void main(String[] args) {
        seed();
        voicesOfEachKind();
        voiceAndTrace();
        sheet();
        put();
        move();
        edges();
        judge();
        imageOfAll();
        imageNotOf();
        tell();
        check();
        count();
        told();
        errorsChangeNothing();
        Due.end();
    }

    private static void seed() {
        KnivesGround x = new KnivesGround();
        Due.is("P29 at first", x.seed(Integer.MIN_VALUE), 1);
        Due.is("P29 what it was", x.seed(-1000000001), Integer.MIN_VALUE);
        Due.is("P29 any number", x.seed(0), -1000000001);
        Due.is("P29 no ERROR", x.told(1), 0);
        Due.is("P29 z is told", x.count(11), 0);
        x.loose(1);
        Due.is("P29 draws go on from it", x.count(11), 12345);
        Due.is("P29 12345 >>> 8 is 48", x.count(3), 8);
    }

    private static void voicesOfEachKind() {
        KnivesGround x = new KnivesGround();
        for (int kind = 0; kind < 7; kind++) {
            x.quarrel(10 * kind + 9 - kind, 0, 0, -1);
        }
        int[] numbers = {0, 1, -1, 5, -77, 1000000, Integer.MAX_VALUE, Integer.MIN_VALUE};
        for (int kind = 0; kind < 7; kind++) {
            for (int i = 0; i < 4 * numbers.length; i++) {
                int act = i % 4;
                int v = numbers[i / 4];
                Bodies p = Bodies.of(kind, kind, 9 - kind);
                int due = p.act(act, v);
                String name = "P30 KIND " + kind + " act " + act + " of " + v;
                Due.is(name, x.voice(kind, act, v), due);
                Due.is("P31 BODIES, " + name, x.count(10), p.trace.length());
                for (int j = 0; j < p.trace.length(); j++) {
                    Due.is("P31 " + j + ", " + name, x.trace(j), p.trace.charAt(j));
                }
                Due.is("P31 none behind, " + name, x.trace(p.trace.length()), Due.NONE);
            }
        }
    }

    private static void voiceAndTrace() {
        KnivesGround x = new KnivesGround();
        Due.is("P30 no quarrel", x.voice(0, 0, 0), Due.BEYOND);
        x.quarrel(0, 0, 0, -1);
        x.quarrel(43, 0, 0, -1);
        // cuts: (5 + 1) * 3 * 2 = 36; sparks: 5 - 3 = 2; 36 ^ 2 = 38; grinds(2): 9
        Due.is("P30 OLD tells", x.voice(1, 3, 5), 29);
        int[] trace = {50, 13, 11, 20, 10, 12, 20, 10};
        for (int i = 0; i < trace.length; i++) {
            Due.is("P31 OLD " + i, x.trace(i), trace[i]);
        }
        Due.is("P30 act 4", x.voice(1, 4, 0), Due.BEYOND);
        Due.is("P30 act -1", x.voice(1, -1, 0), Due.BEYOND);
        Due.is("P30 quarrel 2", x.voice(2, 0, 0), Due.BEYOND);
        Due.is("P30 quarrel -1", x.voice(-1, 0, 0), Due.BEYOND);
        Due.is("P31 an ERROR leaves THE TRACE", x.count(10), 8);
        Due.is("P31 -1", x.trace(-1), Due.NONE);
        Due.is("P31 8", x.trace(8), Due.NONE);
        Due.is("P30 any number", x.voice(0, 0, -1000000001), -1000000001);
        Due.is("P30 which is no ERROR", x.told(1), 5);
        Due.is("P31 the latest alone", x.count(10), 1);
    }

    private static void sheet() {
        KnivesGround x = new KnivesGround();
        int[] bits = {8, 16, 32};
        for (int b : bits) {
            Due.is("P32 no numbers", x.sheet(3, b, 0), 1);
            Due.is("P32 40", x.sheet(3, b, 40), 1);
            Due.is("P32 41", x.sheet(3, b, 41), Due.BEYOND);
            Due.is("P32 -1", x.sheet(3, b, -1), Due.STATE);
            Due.is("P32 it stays", x.put(3, 39, 1), 1);
        }
        Due.is("P32 sheet 4 ahead of STATE", x.sheet(4, 8, -1), Due.BEYOND);
        Due.is("P32 sheet -1", x.sheet(-1, 8, 1), Due.BEYOND);
        Due.is("P32 bits 7 ahead of STATE", x.sheet(0, 7, -1), Due.BEYOND);
        Due.is("P32 bits 64", x.sheet(0, 64, 1), Due.BEYOND);
        Due.is("P32 bits -8", x.sheet(0, -8, 1), Due.BEYOND);
        Due.is("P32 missing again", x.sheet(3, 0, -1), 1);
        Due.is("P32 missing", x.put(3, 0, 0), Due.NONE);
        Due.is("P32 missing, n doesn't matter", x.sheet(3, 0, 1000), 1);
        x.quarrel(0, 0, 5, -1);
        x.sheet(0, 8, 1);
        x.put(0, 0, 9);
        x.sheet(0, 8, 1);
        Due.is("P32 all 0 again", x.edges(0), 1);
        Due.is("P32 EDGE 0", x.ofQuarrel(0, 3), 0);
    }

    private static void put() {
        KnivesGround x = new KnivesGround();
        x.quarrel(0, 0, 5, -1);
        x.sheet(0, 8, 2);
        x.sheet(1, 16, 2);
        x.sheet(2, 32, 2);
        int[][] due = {{0, 256 + 44, 44}, {0, -256 + 7, 7}, {1, 65536 * 3 + 77, 77}, {1, Integer.MIN_VALUE, 0},
            {2, 98, 98}};
        for (int[] d : due) {
            Due.is("P33 put " + d[1], x.put(d[0], 0, d[1]), 1);
            x.edges(d[0]);
            Due.is("P33 the lowest bits of " + d[1], x.ofQuarrel(0, 3), d[2]);
        }
        x.put(1, 0, 256 + 44);
        Due.is("P33 16 bits hold 300", x.edges(1), 0);
        x.put(2, 0, 65536 + 4);
        Due.is("P33 32 bits hold 65540", x.edges(2), 0);
        Due.is("P33 sheet 4", x.put(4, 0, 0), Due.BEYOND);
        Due.is("P33 sheet -1", x.put(-1, 0, 0), Due.BEYOND);
        Due.is("P33 missing", x.put(3, -1, 0), Due.NONE);
        Due.is("P33 number 2", x.put(0, 2, 0), Due.BEYOND);
        Due.is("P33 number -1", x.put(0, -1, 0), Due.BEYOND);
    }

    private static void move() {
        KnivesGround x = new KnivesGround();
        for (int i = 0; i < 5; i++) {
            x.quarrel(0, 0, 0, -1);
        }
        x.sheet(0, 8, 5);
        x.sheet(1, 8, 3);
        x.sheet(2, 16, 5);
        fill(x, 0, 1, 2, 3, 4, 5);
        Due.is("P34 up in the same", x.move(0, 0, 0, 1, 4), 4);
        edgesAre("P34 as they all were, up", x, 0, 1, 1, 2, 3, 4);
        fill(x, 0, 1, 2, 3, 4, 5);
        Due.is("P34 down in the same", x.move(0, 2, 0, 0, 3), 3);
        edgesAre("P34 as they all were, down", x, 0, 3, 4, 5, 4, 5);
        fill(x, 1, 7, 8, 9);
        Due.is("P34 to another", x.move(1, 1, 0, 3, 2), 2);
        edgesAre("P34 to another", x, 0, 3, 4, 5, 8, 9);
        Due.is("P34 none", x.move(0, 5, 1, 3, 0), 0);
        int[][] beyond = {{0, 0, 4, 0, 1}, {4, 0, 0, 0, 1}, {-1, 0, 0, 0, 1}, {0, 0, -1, 0, 1}, {0, 0, 1, 0, -1},
            {0, -1, 1, 0, 1}, {0, 0, 1, -1, 1}, {0, 5, 1, 0, 1}, {0, 0, 1, 3, 1}, {0, 0, 1, 0, 4}, {0, 3, 1, 0, 3},
            {0, 1, 1, 0, Integer.MAX_VALUE}, {0, Integer.MAX_VALUE, 1, 0, 1}, {4, 0, 3, 0, 1}, {3, 0, 4, 0, 1}};
        for (int[] b : beyond) {
            Due.is("P34 wrong", x.move(b[0], b[1], b[2], b[3], b[4]), Due.BEYOND);
        }
        Due.is("P34 one is missing", x.move(0, 0, 3, 0, -1), Due.NONE);
        Due.is("P34 the other is missing", x.move(3, 0, 2, 0, -1), Due.NONE);
        Due.is("P34 unlike bits", x.move(0, 0, 2, 0, -1), Due.KIND);
        edgesAre("P34 errors move none", x, 0, 3, 4, 5, 8, 9);
    }

    private static void fill(KnivesGround x, int sheet, int... numbers) {
        for (int i = 0; i < numbers.length; i++) {
            x.put(sheet, i, numbers[i]);
        }
    }

    private static void edgesAre(String name, KnivesGround x, int sheet, int... due) {
        Due.is(name + ", how many", x.edges(sheet), due.length);
        for (int i = 0; i < due.length; i++) {
            Due.is(name + ", EDGE of " + i, x.ofQuarrel(i, 3), due[i]);
        }
    }

    private static void edges() {
        KnivesGround x = new KnivesGround();
        for (int i = 0; i < 3; i++) {
            x.quarrel(0, 0, 50, -1);
        }
        x.sheet(0, 16, 40);
        fill(x, 0, 99, 0, 7, 100);
        Due.is("P35 up to the last quarrel", x.edges(0), 3);
        Due.is("P35 EDGES together", x.count(7), 106);
        fill(x, 0, 1, -1, 2);
        Due.is("P35 up to one below 0", x.edges(0), 1);
        Due.is("P35 the others stay", x.count(7), 8);
        fill(x, 0, 2, 100, 2);
        Due.is("P35 up to one above 99", x.edges(0), 1);
        Due.is("P35 no ERROR then", x.count(7), 9);
        x.sheet(1, 8, 2);
        Due.is("P35 fewer numbers", x.edges(1), 2);
        Due.is("P35 the last stays", x.count(7), 7);
        x.sheet(1, 8, 0);
        Due.is("P35 no numbers", x.edges(1), 0);
        Due.is("P35 sheet 4", x.edges(4), Due.BEYOND);
        Due.is("P35 sheet -1", x.edges(-1), Due.BEYOND);
        Due.is("P35 missing", x.edges(2), Due.NONE);
    }

    private static void judge() {
        KnivesGround x = new KnivesGround();
        for (int i = 0; i < 3; i++) {
            x.quarrel(0, 5, 0, -1);
        }
        x.change(1, 3, 999);
        x.days(2);
        x.sheet(0, 16, 3);
        fill(x, 0, 2, 999, 2);
        Due.is("P36 all are", x.judge(0), -1);
        fill(x, 0, 2, 999, 3);
        Due.is("P36 the last isn't", x.judge(0), 2);
        fill(x, 0, 2, 998, 3);
        Due.is("P36 the first that isn't", x.judge(0), 1);
        x.sheet(1, 32, 4);
        fill(x, 1, 2, 999, 2, 0);
        Due.is("P36 one is too many", x.judge(1), 3);
        x.sheet(1, 32, 2);
        fill(x, 1, 2, 999);
        Due.is("P36 one lacks", x.judge(1), 2);
        fill(x, 1, 3, 999);
        Due.is("P36 one isn't, one lacks", x.judge(1), 0);
        Due.is("P36 sheet 4", x.judge(4), Due.BEYOND);
        Due.is("P36 sheet -1", x.judge(-1), Due.BEYOND);
        Due.is("P36 missing", x.judge(3), Due.NONE);
        KnivesGround y = new KnivesGround();
        y.sheet(0, 8, 0);
        Due.is("P36 no numbers of no quarrels", y.judge(0), -1);
        y.sheet(0, 8, 1);
        Due.is("P36 one of no quarrels", y.judge(0), 0);
    }

    private static void imageOfAll() {
        KnivesGround x = new KnivesGround();
        Due.is("P38 there is none", x.restore(), Due.NONE);
        x.quarrel(12, 1, 60, -1);
        x.quarrel(20, 2, 10, 0);
        Due.text(x, 0, "e/9+7");
        Due.text(x, 1, "a+5");
        x.loose(3);
        x.set(3, 500);
        Due.feed(x, "e+");
        x.tell(1);
        x.tell(2);
        Due.is("P37 once", x.image(), 1);
        long before = all(x);
        x.become(0, 69);
        x.change(1, 0, 9);
        x.change(0, 2, 0);
        x.quarrel(0, 0, 0, -1);
        x.days(5);
        x.set(1, 9);
        x.loose(2);
        x.check();
        Due.text(x, 0, "1");
        Due.text(x, 0, "3");
        Due.text(x, 1, "77");
        x.tell(6);
        Due.feed(x, "aa");
        Due.is("P38 DAY", x.restore(), 3);
        Due.is("P38 all is as it was", all(x), before);
        Due.is("P38 THE TAPE is as it was", Due.text(x, 0, "4"), 1);
        Due.is("P38 e+4", x.law(0, 20, 0, 0), 24);
        Due.is("P38 the numbers are as they were", x.check(), wrongOf(x, 1, 2));
        x.quarrel(0, 0, 0, -1);
        Due.is("P38 the IMAGE stays", x.restore(), 3);
        Due.is("P38 all is as it was again", all(x), before);
        x.days(1);
        Due.is("P37 in place of the one ahead", x.image(), 2);
        x.days(1);
        Due.is("P38 the later one", x.restore(), 4);
        Due.is("P37 how often is not kept", x.image(), 3);
    }

    private static int wrongOf(KnivesGround x, int... told) {
        for (int i = 0; i < told.length; i++) {
            if (Integer.bitCount(x.ended(i + 1)) != told[i]) {
                return 1 + i;
            }
        }
        return 0;
    }

    private static long all(KnivesGround x) {
        long all = 0;
        for (int what = 0; what < 12; what++) {
            all = all * 31 + (what == 10 ? 0 : x.count(what));
        }
        for (int i = 0; i < 10 * x.count(0); i++) {
            all = all * 31 + x.ofQuarrel(i / 10, i % 10);
        }
        return all * 31 * 31 + x.law(0, 33, 21, 4) * 31 + x.law(1, 33, 21, 4);
    }

    private static void imageNotOf() {
        KnivesGround x = new KnivesGround();
        x.quarrel(40, 0, 0, -1);
        x.image();
        x.sheet(0, 8, 1);
        x.put(0, 0, 42);
        x.voice(0, 3, 1);
        x.set(9, 9);
        Due.is("P38 DAY 0", x.restore(), 0);
        Due.is("P37 THE TRACE is not kept", x.count(10), 8);
        Due.is("P37 what told() tells is not kept", x.told(1), 1);
        Due.is("P37 SHEETS are not kept", x.edges(0), 1);
        Due.is("P37 nor their numbers", x.ofQuarrel(0, 3), 42);
        KnivesGround y = new KnivesGround();
        y.image();
        Due.text(y, 0, "7");
        Due.text(y, 1, "7");
        y.restore();
        Due.is("P38 no TEXT of USE 0, as it was", y.law(0, 0, 0, 0), 20);
        Due.is("P38 no TEXT of USE 1, as it was", y.law(1, 0, 0, 0), 9);
    }

    private static void tell() {
        KnivesGround x = new KnivesGround();
        for (int i = 1; i <= 20; i++) {
            Due.is("P39 " + i, x.tell(-i), i);
        }
        Due.is("P39 the 21st", x.tell(0), Due.FULL);
        Due.is("P39 20 wait", x.count(9), 20);
        Due.is("P40 the first isn't so", x.check(), 1);
        Due.is("P40 none wait", x.count(9), 0);
        Due.is("P39 one again", x.tell(0), 1);
    }

    private static void check() {
        KnivesGround x = new KnivesGround();
        Due.is("P40 none waits", x.check(), 0);
        x.quarrel(20, 9, 30, -1);
        x.quarrel(0, 2, 36, -1);
        x.quarrel(0, 9, 0, -1);
        x.change(2, 2, 1);
        // behind 1 DAY two have ended; 1 has 36 - 6 + 20 on DAY 2
        int[][] told = {{2}, {2, 2, 3, 3}, {2, 2, 2}, {1, 9}, {2, 2, 3, 3, 3, 3, 3, 3, 3, 4}};
        int[] due = {0, 0, 3, 1, 10};
        for (int i = 0; i < told.length; i++) {
            for (int t : told[i]) {
                x.tell(t);
            }
            Due.is("P40 " + i, x.check(), due[i]);
            Due.is("P40 none wait then " + i, x.count(9), 0);
        }
        Due.is("P40 no DAY has gone by", x.count(1), 0);
    }

    private static void count() {
        KnivesGround x = new KnivesGround();
        x.quarrel(0, 5, 61, -1);
        x.quarrel(0, 5, 20, -1);
        x.quarrel(0, 5, 10, 1);
        x.loose(1);
        x.set(0, 3);
        x.set(2, 11111);
        x.set(3, 222);
        x.feed(0, 5);
        x.tell(0);
        x.tell(0);
        x.voice(0, 1, 0);
        int[] due = {3, 1, 3, 4, 11111, 222, 1, 85, 5, 2, 2, 1103527590};
        for (int what = 0; what < due.length; what++) {
            Due.is("P41 " + what, x.count(what), due[what]);
        }
        Due.is("P41 12", x.count(12), Due.BEYOND);
        Due.is("P41 -1", x.count(-1), Due.BEYOND);
        x.seed(-1000000002);
        Due.is("P41 z is any number", x.count(11), -1000000002);
        Due.is("P41 and no ERROR", x.told(2), 0);
    }

    private static void told() {
        KnivesGround x = new KnivesGround();
        x.quarrel(0, 0, 0, -1);
        x.set(9, 0);
        x.trace(0);
        x.restore();
        x.sheet(0, 8, -1);
        x.sheet(0, 8, -1);
        x.sheet(0, 8, -1);
        for (int i = 0; i < 24; i++) {
            x.tell(0);
        }
        for (int i = 0; i < 5; i++) {
            x.as(0, 1);
        }
        for (int k = 1; k <= 5; k++) {
            Due.is("P42 " + k, x.told(k), k);
        }
        Due.is("P42 0", x.told(0), Due.BEYOND);
        Due.is("P42 6", x.told(6), Due.BEYOND);
        Due.is("P42 far", x.told(Integer.MIN_VALUE), Due.BEYOND);
        Due.is("P42 counted, too", x.told(1), 4);
        Due.text(x, 0, "x");
        Due.is("P42 a FAULT is no ERROR", x.told(1), 4);
    }

    private static void errorsChangeNothing() {
        KnivesGround x = new KnivesGround();
        x.quarrel(25, 0, 16, -1);
        x.tell(3);
        Due.feed(x, "e");
        long before = all(x);
        x.set(0, 10);
        x.quarrel(0, 0, 0, 5);
        x.change(0, 1, 100);
        x.become(0, 70);
        x.feed(0, 9);
        x.text(2);
        x.days(61);
        x.loose(41);
        x.voice(0, 4, 0);
        x.edges(0);
        x.restore();
        x.count(99);
        Due.is("P42 ERRORS change nothing else", all(x), before);
        Due.is("P42 but what told() tells", x.told(1) * 10 + x.told(2), 102);
    }
}
