/** Promises 14 to 28: what would be. */
public final class ThoughtTests {
    public static void main(String[] args) {
        then();
        when();
        ended();
        start();
        pace();
        hand();
        first();
        firstHeld();
        sparks();
        last();
        sharp();
        off();
        chain();
        fee();
        free();
        odds();
        onlyThought();
        Due.end();
    }

    /** One QUARREL in AREA 2 with EDGE 30, THE GRINDER in AREA 0. */
    private static KnivesGround oneInAreaTwo(int step) {
        KnivesGround x = new KnivesGround();
        x.quarrel(0, 2, 30, -1);
        x.set(1, step);
        return x;
    }

    private static void then() {
        KnivesGround x = oneInAreaTwo(1);
        int[] edges = {30, 27, 24, 41, 38};
        for (int n = 0; n < edges.length; n++) {
            Due.is("P14 EDGE behind " + n, x.then(n, 0, 0), edges[n]);
            Due.is("P14 ENDED behind " + n, x.then(n, 0, 1), 0);
            Due.is("P14 AGE behind " + n, x.then(n, 0, 2), n);
        }
        KnivesGround y = oneInAreaTwo(2);
        Due.is("P14 not behind 6", y.then(6, 0, 1), 0);
        Due.is("P14 behind 7", y.then(7, 0, 1), 1);
        Due.is("P14 its EDGE stays", y.then(60, 0, 0), 52);
        Due.is("P14 its AGE stays", y.then(60, 0, 2), 6);
        Due.is("P14 n 61", x.then(61, 0, 0), Due.BEYOND);
        Due.is("P14 n -1", x.then(-1, 0, 0), Due.BEYOND);
        Due.is("P14 quarrel 1", x.then(0, 1, 0), Due.BEYOND);
        Due.is("P14 quarrel -1", x.then(0, -1, 0), Due.BEYOND);
        Due.is("P14 what 3", x.then(0, 0, 3), Due.BEYOND);
        Due.is("P14 what -1", x.then(0, 0, -1), Due.BEYOND);
    }

    private static void when() {
        Due.is("P15 not by 60", oneInAreaTwo(1).when(0), Due.NONE);
        KnivesGround x = oneInAreaTwo(2);
        Due.is("P15 behind 7", x.when(0), 7);
        x.days(6);
        Due.is("P15 behind 1", x.when(0), 1);
        x.days(1);
        Due.is("P15 now", x.when(0), 0);
        Due.is("P15 quarrel 1", x.when(1), Due.BEYOND);
        Due.is("P15 quarrel -1", x.when(-1), Due.BEYOND);
        // By this TEXT it gains nothing up to an AGE that it has on the last DAY.
        KnivesGround y = new KnivesGround();
        y.quarrel(60, 0, 0, -1);
        y.quarrel(0, 0, 0, -1);
        y.set(1, 0);
        Due.text(y, 0, "(a>58)*99");
        Due.is("P15 the last DAY", y.when(1), 60);
        Due.text(y, 0, "(a>59)*99");
        Due.is("P15 a DAY too late", y.when(1), Due.NONE);
        Due.is("P15 a DAY too late, 60", y.then(60, 1, 1), 0);
    }

    private static void ended() {
        KnivesGround x = oneInAreaTwo(2);
        x.quarrel(20, 9, 30, -1);
        x.quarrel(0, 9, 99, 0);
        x.quarrel(0, 9, 0, -1);
        x.change(3, 2, 1);
        Due.is("P16 behind 0", x.ended(0), 8);
        Due.is("P16 behind 1", x.ended(1), 10);
        Due.is("P16 behind 6", x.ended(6), 10);
        Due.is("P16 behind 7", x.ended(7), 15);
        Due.is("P16 behind 60", x.ended(60), 15);
        Due.is("P16 n 61", x.ended(61), Due.BEYOND);
        Due.is("P16 n -1", x.ended(-1), Due.BEYOND);
    }

    private static void start() {
        KnivesGround x = oneInAreaTwo(1);
        x.quarrel(0, 7, 0, -1);
        x.change(1, 2, 1);
        Due.is("P17 the AREA", x.start(1, 0), 2);
        Due.is("P17 how many, those that have too", x.start(1, 1), 2);
        Due.is("P17 of several the least", x.start(0, 0), 0);
        Due.is("P17 at once", x.start(0, 1), 1);
        x.change(0, 1, 33);
        Due.is("P17 of 1 and 2 the least", x.start(2, 0), 1);
        Due.is("P17 n 61", x.start(61, 0), Due.BEYOND);
        Due.is("P17 n -1", x.start(-1, 0), Due.BEYOND);
        Due.is("P17 what 2", x.start(1, 2), Due.BEYOND);
        Due.is("P17 what -1", x.start(1, -1), Due.BEYOND);
        Due.is("P17 he stays", x.count(2), 0);
        Due.is("P17 no quarrels", new KnivesGround().start(9, 0), 0);
    }

    private static void pace() {
        KnivesGround x = oneInAreaTwo(9);
        x.change(0, 1, 34);
        Due.is("P18 the STEP", x.pace(2, 0), 2);
        Due.is("P18 how many", x.pace(2, 1), 1);
        Due.is("P18 of several the least", x.pace(1, 0), 0);
        Due.is("P18 none", x.pace(1, 1), 0);
        x.change(0, 1, 36);
        Due.is("P18 of 1, 2 and 6 the least", x.pace(3, 0), 1);
        Due.is("P18 n 61", x.pace(61, 0), Due.BEYOND);
        Due.is("P18 n -1", x.pace(-1, 0), Due.BEYOND);
        Due.is("P18 what 2", x.pace(1, 2), Due.BEYOND);
        Due.is("P18 what -1", x.pace(1, -1), Due.BEYOND);
        Due.is("P18 the STEP stays", x.count(3), 9);
    }

    private static void hand() {
        KnivesGround x = new KnivesGround();
        x.quarrel(0, 5, 0, -1);
        x.quarrel(0, 5, 0, 0);
        x.quarrel(0, 5, 0, -1);
        x.quarrel(69, 5, 0, 1);
        x.quarrel(0, 5, 50, -1);
        Due.is("P19 itself", x.hand(0, 1), 1);
        Due.is("P19 with that on which it hangs", x.hand(1, 1), 3);
        Due.is("P19 alone", x.hand(2, 1), 4);
        Due.is("P19 three", x.hand(3, 20), 11);
        Due.is("P19 by no hand", x.hand(4, 1), 0);
        Due.is("P19 not in 0 DAYS", x.hand(0, 0), Due.NONE);
        x.change(0, 2, 1);
        Due.is("P19 one has ended", x.hand(1, 1), 2);
        Due.is("P19 it has ended", x.hand(0, 0), 0);
        Due.is("P19 n 21", x.hand(0, 21), Due.BEYOND);
        Due.is("P19 n -1", x.hand(0, -1), Due.BEYOND);
        Due.is("P19 quarrel 5", x.hand(5, 1), Due.BEYOND);
        Due.is("P19 quarrel -1", x.hand(-1, 1), Due.BEYOND);
        // Sharpened, 0 ends at once, while 1 is sharp; or 1 stays sharp till 0 ends, on DAY 2.
        KnivesGround y = new KnivesGround();
        y.quarrel(0, 2, 40, -1);
        y.quarrel(0, 9, 55, 0);
        Due.is("P19 of several sets the least", y.hand(1, 3), 1);
        y.change(0, 0, 0);
        y.change(0, 1, 0);
        y.change(1, 1, 0);
        Due.is("P19 both", y.hand(1, 3), 3);
        // By this TEXT 0, where THE GRINDER is, ends by itself.
        Due.text(y, 0, "60");
        Due.is("P19 the one that hangs", y.hand(1, 1), 2);
        // 0 and 1 end on DAY 2 by themselves, when 2 is too dull: both at once by hand, or 2 alone.
        KnivesGround z = new KnivesGround();
        z.quarrel(0, 2, 40, -1);
        z.quarrel(20, 2, 0, 0);
        z.quarrel(0, 9, 55, 1);
        Due.is("P19 the fewest, though not the least", z.hand(2, 3), 4);
        Due.is("P19 both in two DAYS", z.hand(2, 2), 3);
    }

    private static void first() {
        KnivesGround x = new KnivesGround();
        Due.is("P20 there are none", x.first(0, 0), Due.NONE);
        Due.is("P20 BEYOND ahead of NONE", x.first(61, 0), Due.BEYOND);
        x.quarrel(0, 5, 99, -1);
        x.quarrel(0, 5, 0, -1);
        x.quarrel(30, 5, 22, -1);
        Due.is("P20 which", x.first(2, 0), 1);
        Due.is("P20 HARM of the others", x.first(2, 1), 15);
        Due.is("P20 in 0 DAYS the least", x.first(0, 0), 0);
        Due.is("P20 in 0 DAYS no HARM", x.first(0, 1), 0);
        x.set(2, 700);
        Due.is("P20 HARM that is more", x.first(2, 1), 15);
        x.quarrel(0, 5, 90, 2);
        x.quarrel(0, 5, 50, 2);
        x.change(1, 1, 40);
        x.change(2, 1, 33);
        // DAY 0, with 2 ended: 1 does 6; 3 and 4 end. With 1 ended: 2 does 6, 3 does 1, 4 does 5.
        Due.is("P20 those that hang on it end", x.first(1, 0), 2);
        Due.is("P20 HARM then", x.first(1, 1), 6);
        Due.is("P20 n -1", x.first(-1, 0), Due.BEYOND);
        Due.is("P20 what 2", x.first(0, 2), Due.BEYOND);
        Due.is("P20 what -1", x.first(0, -1), Due.BEYOND);
        for (int i = 0; i < 5; i++) {
            x.change(i, 2, 1);
        }
        Due.is("P20 all have ended", x.first(9, 0), 0);
        Due.is("P20 all have ended, no HARM", x.first(9, 1), 0);
    }

    private static void firstHeld() {
        KnivesGround x = new KnivesGround();
        x.quarrel(0, 5, 99, -1);
        x.quarrel(0, 5, 0, -1);
        x.quarrel(30, 5, 22, -1);
        x.set(2, 99990);
        Due.is("P20 held, all are alike", x.first(2, 0), 0);
        Due.is("P20 held", x.first(2, 1), 9);
    }

    private static void sparks() {
        KnivesGround x = new KnivesGround();
        x.quarrel(0, 3, 10, -1);
        x.quarrel(0, 3, 20, -1);
        int[][] told = {{7, 17, 1015, 9}, {27, 37, 8, 1}, {27, 17, 0, 0}};
        int[] bits = {8, 16, 32};
        for (int i = 0; i < 3; i++) {
            x.sheet(i, bits[i], 2);
            x.put(i, 0, told[i][0]);
            x.put(i, 1, told[i][1]);
            Due.is("P21 the set " + i, x.sparks(i, 0), told[i][2]);
            Due.is("P21 how many " + i, x.sparks(i, 1), told[i][3]);
        }
        Due.is("P21 missing", x.sparks(3, 0), Due.NONE);
        x.sheet(3, 8, 1);
        Due.is("P21 too few", x.sparks(3, 0), Due.NONE);
        x.sheet(3, 8, 3);
        Due.is("P21 too many", x.sparks(3, 0), Due.NONE);
        Due.is("P21 sheet 4", x.sparks(4, 0), Due.BEYOND);
        Due.is("P21 sheet -1", x.sparks(-1, 0), Due.BEYOND);
        Due.is("P21 what 2", x.sparks(0, 2), Due.BEYOND);
        Due.is("P21 BEYOND ahead of NONE", x.sparks(3, -1), Due.BEYOND);
        Due.is("P21 he stays", x.count(2), 0);
        KnivesGround y = new KnivesGround();
        y.sheet(0, 8, 0);
        Due.is("P21 of no QUARRELS no numbers", y.sparks(0, 0), 1023);
        Due.is("P21 everywhere", y.sparks(0, 1), 10);
    }

    private static void last() {
        KnivesGround x = new KnivesGround();
        Due.is("P22 no quarrels", x.last(0), Due.NONE);
        x.quarrel(20, 9, 30, -1);
        x.quarrel(20, 9, 30, -1);
        x.quarrel(20, 9, 0, -1);
        x.quarrel(0, 5, 0, -1);
        x.change(2, 2, 1);
        Due.is("P22 the greatest of one DAY", x.last(0), 1);
        Due.is("P22 behind 1", x.last(1), 1);
        x.change(3, 1, 45);
        // AREA 5 on DAY 5: 45 - 15 + 20 are 50.
        Due.is("P22 a later one", x.last(0), 3);
        Due.is("P22 behind 6", x.last(1), 6);
        x.change(3, 0, 4);
        x.change(0, 0, 5);
        x.change(0, 1, 29);
        // 0, a SPAT: 29 less 30 is 0, and 40 on DAY 5; 3: 45 - 12 + 20 on DAY 4.
        Due.is("P22 of a lesser number, but later", x.last(0), 0);
        Due.is("P22 behind 6 again", x.last(1), 6);
        Due.is("P22 what 2", x.last(2), Due.BEYOND);
        Due.is("P22 what -1", x.last(-1), Due.BEYOND);
        KnivesGround y = new KnivesGround();
        y.quarrel(0, 5, 0, -1);
        Due.is("P22 none has", y.last(0), Due.NONE);
        y.change(0, 2, 1);
        Due.is("P22 it had ended", y.last(1), Due.NONE);
        KnivesGround z = new KnivesGround();
        z.quarrel(0, 0, 0, -1);
        z.set(1, 0);
        Due.text(z, 0, "(a=59)*99");
        Due.is("P22 on the last DAY", z.last(0), 0);
        Due.is("P22 behind 60", z.last(1), 60);
        Due.text(z, 0, "(a=60)*99");
        Due.is("P22 a DAY too late", z.last(0), Due.NONE);
    }

    private static void sharp() {
        KnivesGround x = new KnivesGround();
        x.quarrel(0, 0, 99, -1);
        x.quarrel(0, 5, 0, -1);
        x.quarrel(0, 9, 0, 1);
        Due.is("P23 he is there", x.sharp(0, 1), 30);
        Due.is("P23 he isn't there", x.sharp(1, 1), 50);
        Due.is("P23 not yet there", x.sharp(1, 5), 50);
        Due.is("P23 then", x.sharp(1, 6), 45);
        Due.is("P23 it hangs", x.sharp(2, 60), Due.NONE);
        x.change(1, 2, 1);
        Due.is("P23 it has ended", x.sharp(1, 1), 0);
        Due.is("P23 it hangs no more", x.sharp(2, 1), 50);
        Due.text(x, 0, "(e=7)*60");
        Due.is("P23 the least, though duller", x.sharp(0, 1), 7);
        // 0 ends on DAY 19; till then 1, a FEUD that needs 80, is 19 duller.
        KnivesGround y = new KnivesGround();
        y.quarrel(0, 9, 0, -1);
        y.quarrel(30, 5, 0, 0);
        Due.text(y, 0, "(a=19)*99");
        Due.is("P23 99", y.sharp(1, 20), 99);
        Due.is("P23 not by 19", y.sharp(1, 19), Due.NONE);
        Due.is("P23 n 0", x.sharp(0, 0), Due.BEYOND);
        Due.is("P23 n 61", x.sharp(0, 61), Due.BEYOND);
        Due.is("P23 quarrel 3", x.sharp(3, 1), Due.BEYOND);
        Due.is("P23 quarrel -1", x.sharp(-1, 1), Due.BEYOND);
        Due.is("P23 EDGE stays", x.ofQuarrel(0, 3), 99);
    }

    private static void off() {
        KnivesGround x = new KnivesGround();
        x.quarrel(0, 0, 10, -1);
        Due.is("P24 0 DAYS", x.off(0), 0);
        Due.is("P24 a DAY", x.off(1), 2);
        Due.is("P24 two", x.off(2), 4);
        Due.text(x, 1, "e");
        Due.is("P24 below 0", x.off(1), -20);
        x.change(0, 0, 1);
        Due.is("P24 he goes on all the same", x.off(3), 0);
        x.set(2, 99999);
        x.change(0, 0, 0);
        Due.is("P24 held", x.off(3), 0);
        Due.is("P24 n 61", x.off(61), Due.BEYOND);
        Due.is("P24 n -1", x.off(-1), Due.BEYOND);
    }

    private static void chain() {
        KnivesGround x = new KnivesGround();
        int[] on = {-1, 0, -1, 1, 0, 2, 3, 4, 6};
        for (int i = 0; i < on.length; i++) {
            x.quarrel(0, 5, 0, on[i]);
        }
        Due.is("P25 of 0", x.chain(0), 2 + 8 + 16 + 64 + 128 + 256);
        Due.is("P25 of 1", x.chain(1), 8 + 64 + 256);
        Due.is("P25 of 2", x.chain(2), 32);
        Due.is("P25 of 8", x.chain(8), 0);
        x.change(3, 2, 1);
        Due.is("P25 but what has ended", x.chain(1), 64 + 256);
        x.change(1, 2, 1);
        Due.is("P25 of one that has ended", x.chain(1), 64 + 256);
        Due.is("P25 quarrel 9", x.chain(9), Due.BEYOND);
        Due.is("P25 quarrel -1", x.chain(-1), Due.BEYOND);
    }

    private static void fee() {
        KnivesGround x = new KnivesGround();
        x.quarrel(0, 0, 0, -1);
        x.quarrel(60, 1, 0, -1);
        int[][] due = {{0, 0}, {1, 3}, {2, 6}, {10, 6}, {11, 9}, {12, 12}, {60, 36}};
        for (int[] d : due) {
            Due.is("P26 behind " + d[0], x.fee(d[0]), d[1]);
        }
        x.set(3, 99992);
        Due.is("P26 held", x.fee(60), 7);
        x.change(0, 1, 50);
        x.set(3, 0);
        Due.is("P26 none of an ended one", x.fee(11), 6);
        Due.is("P26 n 61", x.fee(61), Due.BEYOND);
        Due.is("P26 n -1", x.fee(-1), Due.BEYOND);
    }

    private static void free() {
        KnivesGround x = new KnivesGround();
        int[] on = {-1, 0, 1, -1};
        for (int i = 0; i < on.length; i++) {
            x.quarrel(0, 5, 0, on[i]);
        }
        Due.is("P27 that hang on none", x.free(), 9);
        x.change(0, 2, 1);
        Due.is("P27 that hang on an ended one", x.free(), 10);
        x.change(1, 2, 1);
        Due.is("P27 not the ended", x.free(), 12);
        x.change(0, 2, 0);
        Due.is("P27 again", x.free(), 13);
    }

    private static void odds() {
        KnivesGround x = new KnivesGround();
        x.quarrel(0, 5, 33, -1);
        int[][] due = {{0, 0, 1}, {1, 1, 10}, {2, 1, 5}};
        for (int[] d : due) {
            Due.is("P28 above, behind " + d[0], x.odds(0, d[0], 0), d[1]);
            Due.is("P28 below, behind " + d[0], x.odds(0, d[0], 1), d[2]);
        }
        x.change(0, 1, 50);
        Due.is("P28 sure, above", x.odds(0, 1, 0), 1);
        Due.is("P28 sure, below", x.odds(0, 1, 1), 1);
        x.change(0, 1, 42);
        // 5, 4, 3, 2, 1: 42 less 3 for each AREA that he goes first, and 20.
        Due.is("P28 a half, above", x.odds(0, 9, 0), 1);
        Due.is("P28 a half, below", x.odds(0, 9, 1), 2);
        Due.is("P28 four of ten, above", x.odds(0, 4, 0), 2);
        Due.is("P28 four of ten, below", x.odds(0, 4, 1), 5);
        Due.is("P28 quarrel 1", x.odds(1, 0, 0), Due.BEYOND);
        Due.is("P28 quarrel -1", x.odds(-1, 0, 0), Due.BEYOND);
        Due.is("P28 n 61", x.odds(0, 61, 0), Due.BEYOND);
        Due.is("P28 n -1", x.odds(0, -1, 0), Due.BEYOND);
        Due.is("P28 part 2", x.odds(0, 0, 2), Due.BEYOND);
        Due.is("P28 part -1", x.odds(0, 0, -1), Due.BEYOND);
    }

    private static void onlyThought() {
        KnivesGround x = new KnivesGround();
        x.quarrel(25, 0, 16, -1);
        x.quarrel(12, 1, 44, 0);
        x.days(1);
        x.sheet(0, 8, 2);
        long before = stateOf(x);
        x.then(60, 0, 0);
        x.when(1);
        x.ended(60);
        x.start(60, 0);
        x.pace(60, 0);
        x.hand(1, 20);
        x.first(60, 0);
        x.sparks(0, 0);
        x.last(0);
        x.sharp(1, 60);
        x.off(60);
        x.fee(60);
        x.odds(1, 60, 0);
        x.tell(3);
        x.check();
        Due.is("P14-28 nothing has changed", stateOf(x), before);
    }

    private static long stateOf(KnivesGround x) {
        long state = 0;
        for (int what = 0; what < 12; what++) {
            state = state * 31 + x.count(what);
        }
        for (int i = 0; i < 20; i++) {
            state = state * 31 + x.ofQuarrel(i / 10, i % 10);
        }
        return state;
    }
}
