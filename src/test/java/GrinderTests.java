/** Promises 1 to 8: a new object, the grinder, the quarrels. */
public final class GrinderTests {
    public static void main(String[] args) {
        aNewObject();
        set();
        inArea();
        quarrel();
        ofQuarrelAsItWasMade();
        gainsNeedsDulls();
        change();
        become();
        as();
        Due.end();
    }

    private static void aNewObject() {
        KnivesGround x = new KnivesGround();
        int[] counts = {0, 0, 0, 1, 0, 0, 0, 0, 0, 0, 0, 1};
        for (int what = 0; what < counts.length; what++) {
            Due.is("P1 count " + what, x.count(what), counts[what]);
        }
        for (int k = 1; k <= 5; k++) {
            Due.is("P1 told " + k, x.told(k), 0);
        }
        for (int area = 0; area < 10; area++) {
            Due.is("P1 inArea " + area, x.inArea(area), 0);
        }
        Due.is("P1 law 0", x.law(0, 0, 0, 0), 20);
        Due.is("P1 law 1", x.law(1, 0, 0, 0), 9);
        Due.is("P1 no quarrel", x.ofQuarrel(0, 0), Due.BEYOND);
        Due.is("P1 no sheet", x.put(0, 0, 0), Due.NONE);
        Due.is("P1 no image", x.restore(), Due.NONE);
        Due.is("P1 no trace", x.trace(0), Due.NONE);
        Due.is("P1 none free", x.free(), 0);
        Due.is("P1 none waits", x.check(), 0);
    }

    private static void set() {
        int[] most = {9, 9, 99999, 99999};
        int[] first = {0, 1, 0, 0};
        for (int what = 0; what < 4; what++) {
            KnivesGround x = new KnivesGround();
            Due.is("P2 set most " + what, x.set(what, most[what]), first[what]);
            Due.is("P2 set above " + what, x.set(what, most[what] + 1), Due.BEYOND);
            Due.is("P2 set below " + what, x.set(what, -1), Due.BEYOND);
            Due.is("P2 stays " + what, x.count(2 + what), most[what]);
            Due.is("P2 set 0 " + what, x.set(what, 0), most[what]);
            Due.is("P2 is 0 " + what, x.count(2 + what), 0);
        }
        KnivesGround x = new KnivesGround();
        Due.is("P2 what 4", x.set(4, 0), Due.BEYOND);
        Due.is("P2 what -1", x.set(-1, 0), Due.BEYOND);
        Due.is("P2 what far", x.set(Integer.MIN_VALUE, 0), Due.BEYOND);
        Due.is("P2 v far", x.set(3, Integer.MAX_VALUE), Due.BEYOND);
    }

    private static void inArea() {
        KnivesGround x = new KnivesGround();
        x.quarrel(0, 9, 0, -1);
        x.quarrel(0, 3, 0, -1);
        x.quarrel(0, 9, 0, -1);
        x.change(2, 2, 1);
        Due.is("P3 an ended one too", x.inArea(9), 5);
        Due.is("P3 one", x.inArea(3), 2);
        Due.is("P3 none", x.inArea(0), 0);
        x.change(0, 0, 3);
        Due.is("P3 moved", x.inArea(3), 3);
        Due.is("P3 10", x.inArea(10), Due.BEYOND);
        Due.is("P3 -1", x.inArea(-1), Due.BEYOND);
    }

    private static void quarrel() {
        KnivesGround x = new KnivesGround();
        int[][] wrong = {{-1, 0, 0, -1}, {70, 0, 0, -1}, {0, -1, 0, -1}, {0, 10, 0, -1},
            {0, 0, -1, -1}, {0, 0, 100, -1}, {0, 0, 0, -2}, {0, 0, 0, 0},
            {Integer.MAX_VALUE, 0, 0, -1}, {0, 0, 0, Integer.MIN_VALUE}};
        for (int[] w : wrong) {
            Due.is("P4 wrong " + w[0] + " " + w[1] + " " + w[2] + " " + w[3],
                x.quarrel(w[0], w[1], w[2], w[3]), Due.BEYOND);
        }
        Due.is("P4 none made", x.count(0), 0);
        for (int i = 0; i < 9; i++) {
            Due.is("P4 on itself " + i, x.quarrel(0, 0, 0, i), Due.BEYOND);
            Due.is("P4 made " + i, x.quarrel(i * 7, i, i, i - 1), i);
        }
        Due.is("P4 the tenth", x.quarrel(69, 9, 99, 8), Due.FULL);
        Due.is("P4 BEYOND ahead of FULL", x.quarrel(70, 9, 99, 8), Due.BEYOND);
        Due.is("P4 on 9 ahead of FULL", x.quarrel(0, 0, 0, 9), Due.BEYOND);
        Due.is("P4 nine", x.count(0), 9);
    }

    private static void ofQuarrelAsItWasMade() {
        KnivesGround x = new KnivesGround();
        x.quarrel(0, 0, 0, -1);
        x.quarrel(69, 9, 98, 0);
        int[] first = {0, 0, 0, 0, -1, 0, 0, 20, 50, 3};
        int[] second = {6, 9, 9, 98, 0, 0, 0, 0, 71, 1};
        for (int what = 0; what < 10; what++) {
            Due.is("P5 of 0, " + what, x.ofQuarrel(0, what), first[what]);
            Due.is("P5 of 1, " + what, x.ofQuarrel(1, what), second[what]);
        }
        Due.is("P5 quarrel 2", x.ofQuarrel(2, 0), Due.BEYOND);
        Due.is("P5 quarrel -1", x.ofQuarrel(-1, 0), Due.BEYOND);
        Due.is("P5 what 10", x.ofQuarrel(0, 10), Due.BEYOND);
        Due.is("P5 what -1", x.ofQuarrel(0, -1), Due.BEYOND);
    }

    private static void gainsNeedsDulls() {
        // Of each KIND with m 7 and v 9: GAINS on a DAY that 6 does not divide, on one that it does.
        int[] gains = {9, 16, 18, 4, 16, 18, 0};
        int[] gainsOnSixth = {9, 16, 18, 4, 16, 0, 0};
        int[] gainsOfOld = {9, 16, 18, 4, 0, 18, 0};
        int[] needs = {50, 64, 30, 80, 69, 37, 73};
        int[] dulls = {3, 4, 6, 1, 4, 6, 1};
        KnivesGround x = new KnivesGround();
        Due.text(x, 0, "9");
        for (int kind = 0; kind < 7; kind++) {
            x.quarrel(10 * kind + 7, 5, 0, -1);
            Due.is("P5 needs " + kind, x.ofQuarrel(kind, 8), needs[kind]);
            Due.is("P5 dulls " + kind, x.ofQuarrel(kind, 9), dulls[kind]);
            Due.is("P5 gains on DAY 0 " + kind, x.ofQuarrel(kind, 7), gainsOnSixth[kind]);
        }
        x.days(1);
        for (int kind = 0; kind < 7; kind++) {
            x.change(kind, 3, 0);
            Due.is("P5 gains on DAY 1 " + kind, x.ofQuarrel(kind, 7), gains[kind]);
            x.change(kind, 3, 999);
            Due.is("P5 gains of AGE 999 " + kind, x.ofQuarrel(kind, 7), gainsOfOld[kind]);
        }
        x.change(4, 3, 39);
        Due.is("P5 AGE 39 by 10", x.ofQuarrel(4, 7), 13);
        x.days(5);
        for (int kind = 0; kind < 7; kind++) {
            x.change(kind, 3, 9);
            Due.is("P5 gains on DAY 6 " + kind, x.ofQuarrel(kind, 7), gainsOnSixth[kind]);
        }
        gainsByNames();
    }

    private static void gainsByNames() {
        KnivesGround x = new KnivesGround();
        x.quarrel(0, 5, 31, -1);
        x.change(0, 3, 17);
        Due.text(x, 0, "e+a*2+d");
        Due.is("P5 gains by e and a", x.ofQuarrel(0, 7), 65);
        x.days(9);
        x.change(0, 1, 31);
        x.change(0, 3, 17);
        Due.is("P5 gains by the rest of DAY by 7", x.ofQuarrel(0, 7), 67);
    }

    private static void change() {
        int[] most = {9, 99, 1, 999};
        int[] of = {2, 3, 5, 6};
        int[] first = {4, 12, 0, 0};
        KnivesGround x = new KnivesGround();
        x.quarrel(11, 0, 0, -1);
        x.quarrel(0, 4, 12, 0);
        for (int what = 0; what < 4; what++) {
            Due.is("P6 to the most " + what, x.change(1, what, most[what]), first[what]);
            Due.is("P6 above " + what, x.change(1, what, most[what] + 1), Due.BEYOND);
            Due.is("P6 below " + what, x.change(1, what, -1), Due.BEYOND);
            Due.is("P6 stays " + what, x.ofQuarrel(1, of[what]), most[what]);
            Due.is("P6 the other stays " + what, x.ofQuarrel(0, of[what]), 0);
            Due.is("P6 to 0 " + what, x.change(1, what, 0), most[what]);
            Due.is("P6 is 0 " + what, x.ofQuarrel(1, of[what]), 0);
        }
        Due.is("P6 what 4", x.change(1, 4, 0), Due.BEYOND);
        Due.is("P6 what -1", x.change(1, -1, 0), Due.BEYOND);
        Due.is("P6 quarrel 2", x.change(2, 0, 0), Due.BEYOND);
        Due.is("P6 quarrel -1", x.change(-1, 0, 0), Due.BEYOND);
    }

    private static void become() {
        KnivesGround x = new KnivesGround();
        x.quarrel(14, 3, 40, -1);
        x.change(0, 3, 5);
        Due.is("P7 from GRUDGE", x.become(0, 69), 1);
        Due.is("P7 KIND", x.ofQuarrel(0, 0), 6);
        Due.is("P7 m", x.ofQuarrel(0, 1), 9);
        Due.is("P7 AREA stays", x.ofQuarrel(0, 2), 3);
        Due.is("P7 EDGE stays", x.ofQuarrel(0, 3), 40);
        Due.is("P7 AGE stays", x.ofQuarrel(0, 6), 5);
        Due.is("P7 70", x.become(0, 70), Due.BEYOND);
        Due.is("P7 -1", x.become(0, -1), Due.BEYOND);
        Due.is("P7 quarrel 1", x.become(1, 0), Due.BEYOND);
        Due.is("P7 to 0", x.become(0, 0), 6);
        Due.is("P7 KIND 0", x.ofQuarrel(0, 0), 0);
    }

    private static void as() {
        String[] kindsOf = {"0", "01", "02", "03", "014", "025", "036"};
        KnivesGround x = new KnivesGround();
        x.quarrel(0, 0, 0, -1);
        for (int kind = 0; kind < 7; kind++) {
            x.become(0, 10 * kind + 8);
            for (int asked = 0; asked < 7; asked++) {
                boolean is = kindsOf[kind].indexOf('0' + asked) >= 0;
                Due.is("P8 " + kind + " as " + asked, x.as(0, asked), is ? 8 : Due.KIND);
            }
        }
        Due.is("P8 kind 7", x.as(0, 7), Due.BEYOND);
        Due.is("P8 kind -1", x.as(0, -1), Due.BEYOND);
        Due.is("P8 quarrel 1", x.as(1, 0), Due.BEYOND);
        Due.is("P8 quarrel -1", x.as(-1, 0), Due.BEYOND);
    }
}
