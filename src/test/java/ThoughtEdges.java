/** Terms 3 as far as it is thought, and promises 14 to 28, sentence by sentence. */
final class ThoughtEdges {
    private ThoughtEdges() {
    }

    static void all() {
        onlyThought();
        beyond9999();
        behind();
        when();
        ended();
        start();
        pace();
        hand();
        first();
        sparks();
        last();
        sharp();
        off();
        chain();
        fee();
        free();
        odds();
    }

    /** THE GRINDER stays in AREA 0. */
    private static KnivesGround still() {
        KnivesGround x = new KnivesGround();
        x.set(1, 0);
        return x;
    }

    /** One QUARREL, where THE GRINDER goes round by a STEP from AREA 0 on. */
    private static KnivesGround one(int area, int edge, int step) {
        KnivesGround x = new KnivesGround();
        x.set(1, step);
        x.quarrel(0, area, edge, -1);
        return x;
    }

    // ---- all of it

    private static void onlyThought() {
        Edges.says(Edges.TERMS, "3. (All this is only thought, DAY beyond 9999, too.)");
        String[] names = {"then", "when", "ended", "start", "pace", "hand", "first", "sparks", "last", "sharp", "off",
            "chain", "fee", "free", "odds"};
        Twin.Call[] calls = {x -> x.then(60, 0, 0), x -> x.when(1), x -> x.ended(60), x -> x.start(60, 0),
            x -> x.pace(60, 0), x -> x.hand(1, 20), x -> x.first(60, 0), x -> x.sparks(0, 0), x -> x.last(0),
            x -> x.sharp(1, 60), x -> x.off(60), x -> x.chain(0), x -> x.fee(60), x -> x.free(),
            x -> x.odds(1, 60, 0)};
        String alone = Twin.probe(Twin.some());
        String fullAlone = Twin.probe(Twin.full());
        for (int i = 0; i < calls.length; i++) {
            KnivesGround x = Twin.some();
            calls[i].on(x);
            Edges.is(names[i] + " changes nothing", Twin.probe(x).equals(alone) ? 1 : 0, 1);
            KnivesGround y = Twin.full();
            Edges.is(names[i] + " on DAY 9999 is no STATE", calls[i].on(y) == Due.STATE ? 1 : 0, 0);
            Edges.is(names[i] + " changes nothing on DAY 9999", Twin.probe(y).equals(fullAlone) ? 1 : 0, 1);
        }
    }

    private static void beyond9999() {
        KnivesGround x = Edges.toDay(still(), 9999);
        x.quarrel(0, 0, 0, -1);
        x.quarrel(50, 0, 0, -1);
        Due.text(x, 0, "d*10");
        // The rest of 9999 by 7 is 3, that of 10000 is 4: 30 less 3, and 40.
        Edges.is("behind DAY 9999", x.then(1, 0, 0), 27);
        Edges.is("behind DAY 10000", x.then(2, 0, 0), 67);
        Edges.is("it ends on DAY 10000", x.when(0), 2);
        Due.text(x, 0, "5");
        // A SULK: 10 less 6 by a DAY, but 6 divides 10002.
        int[] edges = {0, 4, 8, 12, 6, 10};
        for (int n = 0; n < edges.length; n++) {
            Edges.is("a SULK behind " + n, x.then(n, 1, 0), edges[n]);
        }
        Due.text(x, 0, "0");
        Edges.is("AGE behind 60", x.then(60, 1, 2), 60);
        Edges.is("DAY stays", x.count(1), 9999);
    }

    private static void behind() {
        Edges.says(Edges.TERMS, "BEHIND n DAYS (0 to 60).");
        KnivesGround x = one(5, 9, 0);
        int[][] due = {{0, 9, 0}, {1, 6, 1}, {2, 3, 2}, {3, 0, 3}, {4, 0, 4}, {60, 0, 60}};
        for (int[] d : due) {
            Edges.is("EDGE behind " + d[0], x.then(d[0], 0, 0), d[1]);
            Edges.is("AGE behind " + d[0], x.then(d[0], 0, 2), d[2]);
        }
        Edges.is("behind 61", x.then(61, 0, 2), Due.BEYOND);
        Edges.is("behind -1", x.then(-1, 0, 2), Due.BEYOND);
        Edges.says(14, "BEHIND n DAYS, of a QUARREL: what 0 EDGE, 1 whether ENDED, 2 AGE.");
        x.change(0, 3, 950);
        Edges.is("AGE behind 48", x.then(48, 0, 2), 998);
        Edges.is("AGE behind 49", x.then(49, 0, 2), 999);
        Edges.is("AGE behind 60, held", x.then(60, 0, 2), 999);
        x.change(0, 1, 50);
        Edges.is("not ENDED behind 0", x.then(0, 0, 1), 0);
        Edges.is("ENDED behind 1", x.then(1, 0, 1), 1);
        Edges.is("ENDED behind 60", x.then(60, 0, 1), 1);
        Edges.is("EDGE of an ended one", x.then(60, 0, 0), 50);
        Edges.is("AGE of an ended one", x.then(60, 0, 2), 950);
        Edges.is("AREA isn't told", x.then(0, 0, 3), Due.BEYOND);
    }

    private static void when() {
        Edges.says(Edges.TERMS, "WHEN of one: behind how many DAYS (0 to 60) it has ENDED first.");
        KnivesGround x = one(0, 50, 0);
        Edges.is("behind 1", x.when(0), 1);
        x.change(0, 2, 1);
        Edges.is("it had ENDED now", x.when(0), 0);
        KnivesGround y = one(0, 0, 0);
        Due.text(y, 0, "(a=59)*99");
        Edges.is("behind 60", y.when(0), 60);
        Due.text(y, 0, "(a=58)*99");
        Edges.is("behind 59", y.when(0), 59);
        Edges.says(15, "WHEN.");
        Edges.is("asked again, it is so still", y.when(0), 59);
        y.days(1);
        Edges.is("a DAY later", y.when(0), 58);
        Edges.says(15, "NONE: not by 60.");
        KnivesGround z = one(0, 0, 0);
        Due.text(z, 0, "(a=60)*99");
        Edges.is("it would be 61", z.when(0), Due.NONE);
        z.days(1);
        Edges.is("a DAY later it is 60", z.when(0), 60);
        Edges.is("never", one(5, 49, 0).when(0), Due.NONE);
        Edges.is("told", z.told(2), 1);
    }

    private static void ended() {
        Edges.says(Edges.TERMS, "ENDED behind n DAYS: as a set.");
        KnivesGround x = still();
        for (int i = 0; i < 9; i++) {
            x.quarrel(0, 5, i == 3 ? 0 : 50, -1);
        }
        Edges.is("behind 0", x.ended(0), 0);
        Edges.is("all but one", x.ended(1), 511 - 8);
        x.change(3, 2, 1);
        Edges.is("one now", x.ended(0), 8);
        Edges.is("all nine", x.ended(60), 511);
        Edges.says(16, "ENDED.");
        KnivesGround y = one(0, 0, 0);
        Due.text(y, 0, "(a=59)*99");
        Edges.is("not behind 59", y.ended(59), 0);
        Edges.is("behind 60", y.ended(60), 1);
        Edges.is("no QUARRELS", new KnivesGround().ended(60), 0);
    }

    private static void start() {
        Edges.says(Edges.TERMS, "START by n (0 to 60): the AREA in which THE GRINDER should be now so that most have"
            + " ENDED behind n DAYS; of several the least; how many.");
        KnivesGround x = one(9, 30, 1);
        Edges.is("AREA 9", x.start(1, 0), 9);
        Edges.is("one", x.start(1, 1), 1);
        x.change(0, 1, 33);
        Edges.is("of 8 and 9 the least", x.start(2, 0), 8);
        x.change(0, 1, 29);
        Edges.is("of all the least", x.start(1, 0), 0);
        Edges.is("none", x.start(1, 1), 0);
        Edges.says(17, "START: what 0 the AREA, 1 how many.");
        KnivesGround y = one(9, 0, 0);
        y.quarrel(0, 5, 0, -1);
        y.quarrel(0, 5, 0, -1);
        y.quarrel(0, 9, 50, -1);
        y.change(3, 2, 1);
        Edges.is("in 60 DAYS", y.start(60, 0), 5);
        Edges.is("in 60 DAYS, with one that had", y.start(60, 1), 3);
        Edges.is("in 0 DAYS", y.start(0, 0), 0);
        Edges.is("in 0 DAYS, one that had", y.start(0, 1), 1);
        // Only one who is elsewhere on the first DAY, and there on the next, would end it; by STEP 0 none is.
        KnivesGround z = one(0, 30, 0);
        Due.text(z, 0, "(e=30)+(e=27)*99");
        Edges.is("there is no way round the AREAS", z.start(2, 1), 0);
        z.set(1, 1);
        Edges.is("but from 9 by STEP 1", z.start(2, 0), 9);
        Edges.is("no QUARRELS", new KnivesGround().start(60, 0), 0);
        Edges.is("none of no QUARRELS", new KnivesGround().start(60, 1), 0);
    }

    private static void pace() {
        Edges.says(Edges.TERMS, "PACE by n (0 to 60): the STEP likewise.");
        KnivesGround x = one(8, 36, 1);
        Edges.is("8 at once", x.pace(2, 0), 8);
        Edges.is("of 4, 8 and 9 the least", x.pace(3, 0), 4);
        Edges.is("of all the least", x.pace(1, 0), 0);
        Edges.is("none", x.pace(1, 1), 0);
        x.change(0, 0, 9);
        Edges.is("9", x.pace(2, 0), 9);
        x.change(0, 0, 0);
        Edges.is("0, where he is", x.pace(60, 0), 0);
        Edges.says(18, "PACE: what 0 the STEP, 1 how many.");
        KnivesGround y = one(3, 33, 1);
        y.quarrel(0, 3, 33, -1);
        y.quarrel(0, 3, 0, -1);
        y.change(2, 2, 1);
        Edges.is("STEP", y.pace(2, 0), 3);
        Edges.is("how many, with one that had", y.pace(2, 1), 3);
        Edges.is("in 0 DAYS", y.pace(0, 0), 0);
        Edges.is("in 0 DAYS, one that had", y.pace(0, 1), 1);
        Edges.is("no QUARRELS", new KnivesGround().pace(60, 0), 0);
    }

    private static void hand() {
        Edges.says(Edges.TERMS, "HAND for one by n (0 to 20): the fewest of those that have not ENDED that, having an"
            + " EDGE of 99 now, make that it has ENDED behind n DAYS;");
        KnivesGround x = one(5, 0, 0);
        for (int i = 0; i < 8; i++) {
            x.quarrel(i == 7 ? 69 : 0, 5, 0, i);
        }
        Edges.is("all nine", x.hand(8, 1), 511);
        Edges.is("all nine in 20 DAYS", x.hand(8, 20), 511);
        x.change(6, 2, 1);
        Edges.is("those above one that has ENDED", x.hand(8, 1), 256 + 128);
        x.change(7, 1, 50);
        Edges.is("but one that ends", x.hand(8, 1), 256);
        x.change(8, 1, 99);
        Edges.is("but both that end: none", x.hand(8, 1), 0);
        x.change(8, 2, 1);
        Edges.is("it has ENDED", x.hand(8, 0), 0);
        // 0 and 1 end on DAY 2 by themselves, when 2 is too dull: both at once by hand, or 2 alone.
        KnivesGround y = one(2, 40, 1);
        y.quarrel(20, 2, 0, 0);
        y.quarrel(0, 9, 55, 1);
        Edges.is("one, though two would be a lesser set", y.hand(2, 3), 4);
        Edges.says(Edges.TERMS, "of several sets the least.");
        // Sharpened, 0 ends at once, while 1 is sharp; or 1 stays sharp till 0 ends, on DAY 2.
        KnivesGround z = one(2, 40, 1);
        z.quarrel(0, 9, 55, 0);
        Edges.is("{0} or {1}", z.hand(1, 3), 1);
        Edges.says(19, "HAND: the set.");
        KnivesGround w = one(0, 0, 0);
        Due.text(w, 0, "(a=19)*99");
        Edges.is("by none, as it ends on the 20th DAY", w.hand(0, 20), 0);
        Edges.is("itself, for 19 DAYS", w.hand(0, 19), 1);
        Edges.is("21 DAYS", w.hand(0, 21), Due.BEYOND);
        Edges.says(19, "NONE: by none.");
        Edges.is("not in 0 DAYS", w.hand(0, 0), Due.NONE);
        w.change(0, 2, 1);
        Edges.is("it has ENDED in 0 DAYS", w.hand(0, 0), 0);
    }

    private static void first() {
        Edges.says(Edges.TERMS, "FIRST by n (0 to 60): the one that, had it ENDED now, makes HARM least"
            + " behind n DAYS;");
        KnivesGround x = still();
        int[] edges = {49, 20, 0, 33};
        for (int edge : edges) {
            x.quarrel(0, 5, edge, -1);
        }
        Edges.is("the dullest", x.first(1, 0), 2);
        Edges.is("in 60 DAYS", x.first(60, 0), 2);
        Edges.says(Edges.TERMS, "of several the least; HARM that is more than now then.");
        x.change(3, 1, 0);
        Edges.is("of 2 and 3", x.first(1, 0), 2);
        Edges.is("5, 8, and 9", x.first(1, 1), 22);
        x.set(2, 500);
        Edges.is("more than now", x.first(1, 1), 22);
        x.set(2, 99977);
        Edges.is("held at the most", x.first(1, 1), 22);
        x.set(2, 99978);
        Edges.is("held above, which all the same", x.first(1, 0), 0);
        Edges.is("held above", x.first(1, 1), 21);
        x.set(2, 99999);
        Edges.is("no more", x.first(60, 1), 0);
        Edges.says(20, "FIRST: what 0 which, 1 HARM.");
        Edges.is("in 0 DAYS all are alike", x.first(0, 0), 0);
        Edges.is("in 0 DAYS no HARM", x.first(0, 1), 0);
        for (int i = 0; i < 4; i++) {
            x.change(i, 2, 1);
        }
        Edges.is("all have ENDED", x.first(60, 0), 0);
        Edges.says(20, "NONE: there are none.");
        Edges.is("in 0 DAYS", new KnivesGround().first(0, 0), Due.NONE);
        Edges.is("in 60 DAYS", new KnivesGround().first(60, 1), Due.NONE);
    }

    private static KnivesGround sheetOfOne(int number, int bits) {
        KnivesGround x = one(9, 10, 1);
        x.sheet(3, bits, 1);
        x.put(3, 0, number);
        return x;
    }

    private static void sparks() {
        Edges.says(Edges.TERMS, "SPARKS: a SHEET tells EDGES of QUARRELS 0, 1, .. behind one DAY:"
            + " where THE GRINDER may be now so that it is so: as a set; how many.");
        int[] bits = {8, 16, 32};
        for (int b : bits) {
            Edges.is("ground: in 9", sheetOfOne(27, b).sparks(3, 0), 512);
            Edges.is("dulled: elsewhere", sheetOfOne(7, b).sparks(3, 0), 511);
            Edges.is("neither", sheetOfOne(10, b).sparks(3, 0), 0);
        }
        Edges.says(21, "SPARKS, by a SHEET: what 0 the set, 1 how many.");
        Edges.is("one AREA", sheetOfOne(27, 8).sparks(3, 1), 1);
        Edges.is("nine", sheetOfOne(7, 8).sparks(3, 1), 9);
        Edges.is("none", sheetOfOne(10, 8).sparks(3, 1), 0);
        KnivesGround x = new KnivesGround();
        x.sheet(0, 8, 0);
        Edges.is("no numbers of no QUARRELS", x.sparks(0, 0), 1023);
        Edges.is("anywhere", x.sparks(0, 1), 10);
        Edges.says(21, "NONE: the SHEET is missing, has not as many numbers as there are QUARRELS.");
        KnivesGround y = sheetOfOne(7, 8);
        Edges.is("missing", y.sparks(2, 0), Due.NONE);
        y.sheet(3, 8, 0);
        Edges.is("one fewer", y.sparks(3, 0), Due.NONE);
        y.sheet(3, 8, 2);
        y.put(3, 0, 7);
        Edges.is("one more", y.sparks(3, 0), Due.NONE);
        Edges.is("one more, how many", y.sparks(3, 1), Due.NONE);
        y.sheet(3, 0, 0);
        Edges.is("missing again", y.sparks(3, 1), Due.NONE);
    }

    private static void last() {
        Edges.says(Edges.TERMS, "LAST: the one that has ENDED last in 60 DAYS, of those that have not now"
            + " (of several in one DAY the greatest); behind how many DAYS.");
        KnivesGround x = still();
        x.quarrel(0, 0, 30, -1);
        x.quarrel(0, 5, 50, -1);
        x.quarrel(0, 5, 99, -1);
        x.quarrel(0, 5, 0, -1);
        x.change(2, 2, 1);
        Edges.is("of 0 and 1 in one DAY, not 2", x.last(0), 1);
        Edges.is("behind 1", x.last(1), 1);
        x.change(0, 1, 29);
        Edges.is("0, a DAY later", x.last(0), 0);
        Edges.is("behind 2", x.last(1), 2);
        Edges.says(22, "LAST: what 0 which, 1 behind how many DAYS.");
        KnivesGround y = one(0, 0, 0);
        Due.text(y, 0, "(a=59)*99");
        Edges.is("on the last DAY", y.last(0), 0);
        Edges.is("behind 60", y.last(1), 60);
        Edges.says(22, "NONE: none has.");
        Due.text(y, 0, "(a=60)*99");
        Edges.is("a DAY too late", y.last(0), Due.NONE);
        y.change(0, 2, 1);
        Edges.is("it had ENDED now", y.last(1), Due.NONE);
        Edges.is("no QUARRELS", new KnivesGround().last(1), Due.NONE);
    }

    private static void sharp() {
        Edges.says(Edges.TERMS, "SHARP of one by n (1 to 60): the least EDGE (0 to 99) with which, had it that now,"
            + " it has ENDED behind n DAYS.");
        KnivesGround x = one(0, 77, 0);
        Edges.is("1 DAY", x.sharp(0, 1), 30);
        Edges.is("2 DAYS", x.sharp(0, 2), 13);
        Edges.is("3 DAYS: 0", x.sharp(0, 3), 0);
        Edges.is("60 DAYS: 0", x.sharp(0, 60), 0);
        Edges.is("0 DAYS", x.sharp(0, 0), Due.BEYOND);
        // 0 ends on the 20th DAY; 1, a FEUD that needs 80, is 19 duller then.
        KnivesGround y = one(0, 0, 0);
        y.quarrel(30, 5, 0, 0);
        Due.text(y, 0, "(a=19)*99");
        Edges.is("99", y.sharp(1, 20), 99);
        Edges.is("had it that now, not later", y.sharp(0, 20), 0);
        Edges.says(23, "SHARP.");
        Due.text(y, 0, "(e=7|e>90)*60");
        Edges.is("the least, though 8 to 49 end it not", y.sharp(0, 1), 7);
        y.change(0, 2, 1);
        Edges.is("it has ENDED with any", y.sharp(0, 1), 0);
        Edges.says(23, "NONE: with none.");
        Due.text(y, 0, "(a=20)*99");
        y.change(0, 2, 0);
        Edges.is("1 would need 100", y.sharp(1, 21), Due.NONE);
        Edges.is("0 has not ENDED by then", y.sharp(1, 20), Due.NONE);
    }

    private static void off() {
        Edges.says(Edges.TERMS, "OFF by n (0 to 60): how much more HARM there is behind n DAYS, did he rest on the next"
            + " DAY ((1) left out, not (3)), than else (may be below 0).");
        KnivesGround x = one(0, 10, 0);
        // Without the rest EDGES 30, 47, and it ends; with it 10, 27, 44, and it ends.
        int[] due = {0, 9 - 7, 9 + 7 - 7 - 5, 9 + 7 + 5 - 7 - 5, 9, 9};
        for (int n = 0; n < due.length; n++) {
            Edges.is("by " + n, x.off(n), due[n]);
        }
        Edges.is("by 60", x.off(60), 9);
        Due.text(x, 1, "e");
        Edges.is("below 0", x.off(1), 10 - 30);
        KnivesGround y = one(1, 29, 1);
        Edges.is("(3) is not left out", y.off(60), 0);
        Edges.says(24, "OFF.");
        KnivesGround z = one(0, 10, 0);
        z.set(2, 99991);
        Edges.is("9 and 7, both held", z.off(1), 1);
        z.set(2, 99999);
        Edges.is("both held at once", z.off(60), 0);
        Edges.is("no QUARRELS", new KnivesGround().off(60), 0);
        Edges.is("he rests on one DAY only", one(0, 33, 0).off(60), 6);
    }

    private static void chain() {
        Edges.says(Edges.TERMS, "CHAIN of one: all that HANG on it, or on one of these, again and again,"
            + " that haven't ENDED, as a set.");
        KnivesGround x = one(5, 0, 0);
        for (int i = 0; i < 8; i++) {
            x.quarrel(0, 5, 0, i);
        }
        for (int i = 0; i < 9; i++) {
            Edges.is("in a row, of " + i, x.chain(i), 511 & -(2 << i));
        }
        x.change(8, 2, 1);
        Edges.is("the last has ENDED", x.chain(0), 254);
        x.change(0, 2, 1);
        Edges.is("of one that has ENDED", x.chain(0), 254);
        x.change(4, 2, 1);
        Edges.is("one between has ENDED", x.chain(0), 254 - 16);
        Edges.says(25, "CHAIN.");
        KnivesGround y = one(5, 0, 0);
        int[] on = {-1, 0, 1, 0, 3};
        for (int o : on) {
            y.quarrel(0, 5, 0, o);
        }
        Edges.is("of 0", y.chain(0), 4 + 16);
        Edges.is("of 1", y.chain(1), 8 + 32);
        Edges.is("of 3", y.chain(3), 32);
        Edges.is("of 5, on which none HANGS", y.chain(5), 0);
    }

    private static void fee() {
        Edges.says(Edges.TERMS, "FEE by n (0 to 60): PENCE that are more behind n DAYS.");
        KnivesGround x = one(0, 0, 0);
        x.become(0, 60);
        Edges.is("0", x.fee(0), 0);
        Edges.is("1", x.fee(1), 3);
        Edges.is("60", x.fee(60), 180);
        Edges.is("61", x.fee(61), Due.BEYOND);
        Edges.says(26, "FEE.");
        x.set(3, 99819);
        Edges.is("held just not", x.fee(60), 180);
        x.set(3, 99820);
        Edges.is("held", x.fee(60), 179);
        x.set(3, 99999);
        Edges.is("held at once", x.fee(60), 0);
        x.set(3, 0);
        x.change(0, 2, 1);
        Edges.is("none of an ended one", x.fee(60), 0);
        Edges.is("the DAY on which it ends is paid", one(0, 30, 0).fee(60), 3);
    }

    private static void free() {
        Edges.says(Edges.TERMS, "FREE: those that have not ENDED, and HANG on none, or on one that has ENDED,"
            + " as a set.");
        KnivesGround x = one(5, 0, 0);
        x.quarrel(0, 5, 0, 0);
        x.quarrel(0, 5, 0, 1);
        x.quarrel(0, 5, 0, -1);
        int[] free = {9, 10, 13, 12, 9, 10, 9, 8};
        for (int set = 0; set < 8; set++) {
            for (int i = 0; i < 3; i++) {
                x.change(i, 2, set >> i & 1);
            }
            Edges.is("ENDED " + set, x.free(), free[set]);
        }
        Edges.says(27, "FREE.");
        x.change(3, 2, 1);
        Edges.is("all have ENDED", x.free(), 0);
        Edges.is("no QUARRELS", new KnivesGround().free(), 0);
        KnivesGround y = new KnivesGround();
        for (int i = 0; i < 9; i++) {
            y.quarrel(0, 5, 99, -1);
        }
        Edges.is("all nine", y.free(), 511);
    }

    private static void odds() {
        Edges.says(Edges.TERMS, "ODDS: that one has ENDED behind n DAYS, THE GRINDER being in any AREA now,"
            + " each just as likely:");
        KnivesGround x = one(5, 30, 1);
        Edges.is("from 5 alone, above", x.odds(0, 1, 0), 1);
        Edges.is("from 5 alone, below", x.odds(0, 1, 1), 10);
        x.set(0, 5);
        Edges.is("wherever he is", x.odds(0, 1, 1), 10);
        Edges.says(Edges.TERMS, "a fraction in lowest terms (0 is 0 by 1).");
        // By this TEXT it ends as soon as THE GRINDER comes by: in k DAYS from k AREAS.
        KnivesGround y = one(9, 0, 1);
        int[] above = {0, 1, 1, 3, 2, 1, 3, 7, 4, 9, 1};
        int[] below = {1, 10, 5, 10, 5, 2, 5, 10, 5, 10, 1};
        Due.text(y, 0, "99");
        for (int k = 0; k <= 10; k++) {
            Edges.is(k + " of ten, above", y.odds(0, k, 0), above[k]);
            Edges.is(k + " of ten, below", y.odds(0, k, 1), below[k]);
        }
        Edges.says(28, "ODDS, n 0 to 60: part 0 above, 1 below the line.");
        Edges.is("n 60, above", y.odds(0, 60, 0), 1);
        Edges.is("n 60, below", y.odds(0, 60, 1), 1);
        Edges.is("n 61", y.odds(0, 61, 0), Due.BEYOND);
        y.change(0, 2, 1);
        Edges.is("it has ENDED, above", y.odds(0, 0, 0), 1);
        Edges.is("it has ENDED, below", y.odds(0, 0, 1), 1);
    }
}
