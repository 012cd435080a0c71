/** Promises 12 and 13: days, told and by draws. */
public final class DayTests {
    public static void main(String[] args) {
        oneQuarrel();
        theOrderOfADay();
        held();
        endedOnesRest();
        theRound();
        textsInDays();
        daysWrong();
        loose();
        Due.end();
    }

    private static void ground(String name, KnivesGround x, int area, int harm, int pence, int ended) {
        Due.is(name + " AREA", x.count(2), area);
        Due.is(name + " HARM", x.count(4), harm);
        Due.is(name + " PENCE", x.count(5), pence);
        Due.is(name + " ENDED", x.count(6), ended);
    }

    private static void one(String name, KnivesGround x, int quarrel, int edge, int ended, int age) {
        Due.is(name + " EDGE of " + quarrel, x.ofQuarrel(quarrel, 3), edge);
        Due.is(name + " whether ended " + quarrel, x.ofQuarrel(quarrel, 5), ended);
        Due.is(name + " AGE of " + quarrel, x.ofQuarrel(quarrel, 6), age);
    }

    private static void oneQuarrel() {
        KnivesGround x = new KnivesGround();
        x.quarrel(0, 0, 10, -1);
        Due.is("P12 a day", x.days(1), 0);
        ground("P12 ground, dulled", x, 1, 7, 3, 0);
        one("P12 ground, dulled", x, 0, 27, 0, 1);
        Due.is("P12 two more", x.days(2), 0);
        ground("P12 two more", x, 3, 21, 3, 0);
        one("P12 two more", x, 0, 21, 0, 3);
        Due.is("P12 DAY", x.count(1), 3);
        x.set(0, 0);
        x.change(0, 1, 30);
        Due.is("P12 it ends", x.days(1), 1);
        ground("P12 it ends", x, 1, 21, 6, 1);
        one("P12 it ends", x, 0, 50, 1, 3);
    }

    private static void theOrderOfADay() {
        KnivesGround x = new KnivesGround();
        x.quarrel(0, 0, 29, -1);
        x.quarrel(0, 9, 50, 0);
        x.quarrel(0, 9, 99, 1);
        Due.is("P12 49 do not end it", x.days(1), 0);
        one("P12 hangs on one that hasn't", x, 1, 47, 0, 1);
        // 49, 50 and 99 do 5, 5 and 0
        ground("P12 hangs on one that hasn't", x, 1, 10, 3, 0);
        x.change(0, 1, 50);
        x.change(1, 1, 50);
        Due.is("P12 all on one DAY", x.days(1), 3);
        ground("P12 all on one DAY", x, 2, 10, 3, 7);
        one("P12 ended, it is not dulled", x, 2, 96, 1, 1);
    }

    private static void held() {
        KnivesGround x = new KnivesGround();
        x.quarrel(0, 5, 0, -1);
        x.quarrel(20, 0, 90, 0);
        x.quarrel(60, 0, 2, -1);
        x.quarrel(30, 7, 0, -1);
        x.change(0, 3, 999);
        x.change(1, 3, 998);
        x.set(2, 99980);
        x.set(3, 99995);
        Due.is("P12 held", x.days(1), 0);
        // HARM 9, 0, 9, 9; the WRONG one gains nothing and pays all the same
        ground("P12 held", x, 1, 99999, 99999, 0);
        one("P12 EDGE 0 at least, AGE held", x, 0, 0, 0, 999);
        one("P12 EDGE held", x, 1, 93, 0, 999);
        one("P12 WRONG", x, 2, 1, 0, 1);
        KnivesGround y = new KnivesGround();
        y.quarrel(60, 0, 0, -1);
        y.days(1);
        ground("P12 PENCE of one that gains nothing", y, 1, 9, 3, 0);
    }

    private static void endedOnesRest() {
        KnivesGround x = new KnivesGround();
        x.quarrel(0, 0, 7, -1);
        x.change(0, 2, 1);
        x.set(1, 0);
        Due.is("P12 it had ended", x.days(60), 1);
        ground("P12 an ended one", x, 0, 0, 0, 1);
        one("P12 an ended one", x, 0, 7, 1, 0);
        x.change(0, 2, 0);
        x.days(1);
        one("P12 no more an ended one", x, 0, 24, 0, 1);
        KnivesGround y = new KnivesGround();
        y.quarrel(0, 5, 0, -1);
        y.quarrel(20, 5, 40, 0);
        y.change(0, 2, 1);
        Due.is("P12 hangs on one that had ended", y.days(1), 2);
    }

    private static void theRound() {
        KnivesGround x = new KnivesGround();
        x.set(0, 8);
        x.set(1, 7);
        x.days(1);
        Due.is("P12 round", x.count(2), 5);
        x.days(60);
        Due.is("P12 round and round", x.count(2), 5);
        Due.is("P12 STEP stays", x.count(3), 7);
    }

    private static void textsInDays() {
        KnivesGround x = new KnivesGround();
        Due.text(x, 0, "d*10+a");
        Due.text(x, 1, "e+a*2+m");
        x.quarrel(5, 0, 0, -1);
        x.set(1, 0);
        // DAY 0: +0, HARM 0+0+5. DAY 1: +11, HARM 11+2+5, dulled to 8. DAY 2: +22, HARM 30+4+5.
        int[] edges = {0, 8, 27};
        int[] harms = {5, 23, 62};
        for (int day = 0; day < 3; day++) {
            x.days(1);
            Due.is("P12 EDGE by a TEXT, DAY " + day, x.ofQuarrel(0, 3), edges[day]);
            Due.is("P12 HARM by a TEXT, DAY " + day, x.count(4), harms[day]);
        }
        KnivesGround y = new KnivesGround();
        y.quarrel(50, 0, 10, -1);
        y.set(1, 0);
        int[] sulks = {4, 30};
        for (int day = 0; day < 2; day++) {
            y.days(1);
            // DAY 0: no gain, 6 off. DAY 1: 4 + 40 ends it, and it is dulled no more.
            Due.is("P12 SULK DAY " + day, y.ofQuarrel(0, 3), day == 0 ? sulks[0] : 44);
        }
        Due.is("P12 SULK ended", y.count(6), 1);
    }

    private static void daysWrong() {
        KnivesGround x = new KnivesGround();
        Due.is("P12 n 0", x.days(0), Due.BEYOND);
        Due.is("P12 n 61", x.days(61), Due.BEYOND);
        Due.is("P12 n -1", x.days(-1), Due.BEYOND);
        Due.is("P13 n 0", x.loose(0), Due.BEYOND);
        Due.is("P13 n 41", x.loose(41), Due.BEYOND);
        Due.is("P13 n -1", x.loose(-1), Due.BEYOND);
        for (int i = 0; i < 166; i++) {
            x.days(60);
        }
        Due.is("P12 DAY 9960", x.count(1), 9960);
        Due.is("P12 DAY would be 10000", x.days(40), Due.STATE);
        Due.is("P13 DAY would be 10000", x.loose(40), Due.STATE);
        Due.is("P13 z stays", x.count(11), 1);
        Due.is("P12 DAY stays", x.count(1), 9960);
        Due.is("P13 up to 9999", x.loose(39), 0);
        Due.is("P12 DAY 9999", x.count(1), 9999);
        Due.is("P12 BEYOND ahead of STATE", x.days(61), Due.BEYOND);
        Due.is("P12 not one more", x.days(1), Due.STATE);
        Due.is("P13 not one more", x.loose(1), Due.STATE);
        Due.is("P14 thought goes on", x.ended(60), 0);
        KnivesGround y = new KnivesGround();
        for (int i = 0; i < 166; i++) {
            y.days(60);
        }
        Due.is("P12 up to 9999", y.days(39), 0);
        Due.is("P12 DAY 9999 by days", y.count(1), 9999);
    }

    private static void loose() {
        KnivesGround x = new KnivesGround();
        x.quarrel(0, 4, 0, -1);
        // 1103527590 >>> 8 is 4310654
        Due.is("P13 one", x.loose(1), 0);
        Due.is("P13 z", x.count(11), 1103527590);
        Due.is("P13 STEP is drawn", x.count(3), 4);
        Due.is("P13 he went by it", x.count(2), 4);
        Due.is("P13 DAY", x.count(1), 1);
        x.change(0, 1, 31);
        Due.is("P13 it ends", x.loose(1), 1);
        int area = 4;
        long z = 1103527590L * 1103515245L + 12345L;
        for (int i = 0; i < 40; i++) {
            int step = (int) ((z & 0xffffffffL) / 256 % 10);
            area = (area + step) % 10;
            Due.is("P13 AREA " + i, x.count(2), area);
            Due.is("P13 STEP " + i, x.count(3), step);
            Due.is("P13 z " + i, x.count(11), (int) z);
            x.loose(1);
            z = z * 1103515245L + 12345L;
        }
        KnivesGround a = new KnivesGround();
        KnivesGround b = new KnivesGround();
        a.seed(-77);
        b.seed(-77);
        a.loose(40);
        for (int i = 0; i < 40; i++) {
            b.loose(1);
        }
        Due.is("P13 forty are forty times one", a.count(2) * 10 + a.count(3), b.count(2) * 10 + b.count(3));
        Due.is("P13 forty draws", a.count(11), b.count(11));
    }
}
