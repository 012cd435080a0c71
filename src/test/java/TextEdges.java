/** Terms 2 and promises 9 to 11, sentence by sentence. */
final class TextEdges {
    private TextEdges() {
    }

    static void all() {
        quotients();
        tape();
        levels();
        innermost();
        openAtOnce();
        numbers();
        truths();
        faults();
        uses();
        feed();
        text();
        law();
    }

    /** What reading a text as GRINDS answers: 1, or -10 less the FAULT. */
    private static int read(String text) {
        return Due.text(new KnivesGround(), 0, text);
    }

    private static void reads(String text) {
        Edges.is(text, read(text), 1);
    }

    private static void faultAt(int place, String text) {
        Edges.is(text, read(text), -10 - place);
    }

    /** What a text gives as GRINDS, with 31, 41, 5 as e, a, d. */
    private static void gives(int due, String text) {
        KnivesGround x = new KnivesGround();
        Edges.is("reads " + text, Due.text(x, 0, text), 1);
        Edges.is(text, x.law(0, 31, 41, 5), due);
    }

    // ---- Terms 2

    private static void quotients() {
        Edges.says(Edges.TERMS, "Quotients are cut (toward 0).");
        gives(3, "7/2");
        gives(6, "(0-7)/2+9");
        gives(6, "7/(0-2)+9");
        gives(12, "(0-7)/(0-2)+9");
        gives(9, "(0-1)/2+9");
        KnivesGround x = new KnivesGround();
        Edges.is("9-e/11 of -10", x.law(1, -10, 0, 0), 9);
        Edges.is("9-e/11 of -11", x.law(1, -11, 0, 0), 10);
    }

    private static void tape() {
        Edges.says(Edges.TERMS, "2. TEXTS are read from THE TAPE (bytes, at most 50):");
        KnivesGround x = new KnivesGround();
        String fifty = "0+".repeat(24) + "17";
        Due.feed(x, fifty);
        Edges.is("50 bytes", x.count(8), 50);
        Edges.is("not one more", x.feed('0', 1), Due.FULL);
        Edges.is("50 bytes are read", x.text(0), 1);
        Edges.is("up to the last", x.law(0, 0, 0, 0), 17);
        Edges.is("then 50 again", fiftyBytes(x), 50);
    }

    private static int fiftyBytes(KnivesGround x) {
        Due.feed(x, "e".repeat(50));
        return x.count(8);
    }

    private static void levels() {
        Edges.says(Edges.TERMS, "T: A { | A }. A: B { & B }. B: S, or S < S, S = S, S > S. S: P { + P, - P }."
            + " P: Q { * Q, / Q, % Q }.");
        gives(1, "1|0&0");
        gives(1, "0&0|1");
        gives(0, "0&5<3");
        gives(0, "3>0&0");
        gives(1, "2+1=3");
        gives(0, "2=1+2");
        gives(14, "2+3*4");
        gives(10, "2*3+4");
        gives(8, "20-7-5");
        gives(5, "60/4/3");
        gives(2, "17%10%5");
        gives(12, "9/2*3");
        gives(18, "20-5+3");
        reads("e|a|d&e&a<d+1-2*3/4%5");
        faultAt(3, "1<2<3");
        faultAt(3, "1=2>3");
        faultAt(7, "1<2&3=4=5");
        faultAt(7, "(1<2)<3<4");
        reads("(1<2)<3");
        reads("1<2&3<4|5<6");
    }

    private static void innermost() {
        Edges.says(Edges.TERMS, "Q: a NUMBER of 1 to 4 digits, a NAME, ! Q, ( T ).");
        gives(7, "7");
        gives(99, "9999");
        gives(5, "9999/1999");
        gives(7, "0007");
        gives(0, "0000");
        faultAt(4, "12345");
        faultAt(4, "00000");
        faultAt(0, "");
        faultAt(6, "e+12345");
        gives(31, "e");
        gives(0, "!e");
        gives(1, "!!e");
        gives(31, "(e)");
        faultAt(1, "()");
        faultAt(1, "!");
        faultAt(1, "ee");
        faultAt(1, "e1");
        faultAt(1, "1e");
        faultAt(1, "e(a)");
        faultAt(0, "E");
        faultAt(0, "x");
        gives(4, "!0+3");
        gives(3, "!0*3");
        gives(0, "!(0+3)");
        Edges.says(Edges.TERMS, "No blanks.");
        faultAt(0, " e");
        faultAt(1, "e ");
        faultAt(2, "e+ a");
        faultAt(1, "1 2");
        faultAt(1, "!\t");
    }

    private static void openAtOnce() {
        Edges.says(Edges.TERMS, "At most 5 of ! and ( are open at once.");
        reads("!!!!!e");
        faultAt(5, "!!!!!!e");
        reads("(((((e)))))");
        faultAt(5, "((((((e))))))");
        reads("!(!(!e))");
        faultAt(5, "!(!(!(e)))");
        faultAt(5, "(((((!e)))))");
        faultAt(5, "!!!!!(e)");
        reads("!!!!!e*!!!!!a");
        reads("(((((e)))))+(((((a)))))");
        reads("!(((!e*!a)))");
        reads("((((!e+!a))))");
        faultAt(5, "((((!(e)))))");
        reads("(!!!!e)*!!!!!e");
        faultAt(17, "(((((e)))))*(!!!!!e)");
    }

    private static void numbers() {
        Edges.says(Edges.TERMS, "Ints that wrap;");
        KnivesGround x = new KnivesGround();
        Due.text(x, 0, "(e+1<0)*50+7");
        Edges.is("the most and 1", x.law(0, Integer.MAX_VALUE, 0, 0), 57);
        Due.text(x, 0, "(e-1>0)*50+7");
        Edges.is("the least less 1", x.law(0, Integer.MIN_VALUE, 0, 0), 57);
        Due.text(x, 0, "(e*a=0)*50+7");
        Edges.is("65536 times 65536", x.law(0, 65536, 65536, 0), 57);
        Due.text(x, 0, "0-e=e");
        Edges.is("0 less the least", x.law(0, Integer.MIN_VALUE, 0, 0), 1);
        Due.text(x, 0, "e/a=e");
        Edges.is("the least by -1", x.law(0, Integer.MIN_VALUE, -1, 0), 1);
        Edges.says(Edges.TERMS, "/ cut, % the rest that it leaves,");
        gives(2, "(0-7)/4+3");
        gives(0, "(0-7)%4+3");
        gives(6, "7%(0-4)+3");
        gives(0, "8%4");
        gives(3, "3%4");
        Due.text(x, 0, "e%a=0");
        Edges.is("the rest of the least by -1", x.law(0, Integer.MIN_VALUE, -1, 0), 1);
        Edges.says(Edges.TERMS, "both by 0 are 0;");
        gives(0, "7/0");
        gives(0, "7%0");
        gives(0, "0/0");
        gives(0, "0%0");
        gives(9, "7/(5-d)+9");
        gives(9, "7%(5-d)+9");
    }

    private static void truths() {
        Edges.says(Edges.TERMS, "| & < = > ! are 1 or 0, what is not 0 being true; all is worked out.");
        gives(1, "7|0");
        gives(1, "0|7");
        gives(1, "(0-7)|0");
        gives(0, "0|0");
        gives(1, "7&9");
        gives(1, "4&3");
        gives(0, "7&0");
        gives(0, "0&7");
        gives(1, "6<7");
        gives(0, "7<7");
        gives(0, "8<7");
        gives(0, "6>7");
        gives(0, "7>7");
        gives(1, "8>7");
        gives(0, "6=7");
        gives(1, "7=7");
        gives(1, "!0");
        gives(0, "!7");
        gives(0, "!(0-7)");
        gives(1, "!!7");
        gives(1, "1|7/0");
        gives(0, "0&7/0");
        gives(5, "(0|0)+5");
        gives(5, "(0&7)+5");
        gives(5, "(8<7)+5");
        gives(5, "(6>7)+5");
        gives(5, "(6=7)+5");
        gives(5, "!7+5");
        gives(8, "(0-2|0)+7");
        gives(8, "(4&3)+7");
    }

    private static void faults() {
        Edges.says(Edges.TERMS, "FAULT: the place of the first byte with which no TEXT goes on;");
        faultAt(0, "+e");
        faultAt(0, ")");
        faultAt(1, "e)");
        faultAt(2, "e+)");
        faultAt(2, "e+*a");
        faultAt(1, "e!a");
        faultAt(5, "(e+a+)");
        faultAt(3, "(e))+(");
        faultAt(2, "a<=1");
        faultAt(2, "e||a");
        faultAt(1, "e,a");
        faultAt(0, "\u0000");
        faultAt(1, "e\u00e5");
        faultAt(49, "0+".repeat(24) + "1x");
        eachByte();
        Edges.says(Edges.TERMS, "how many there are, if it ends too early.");
        faultAt(0, "");
        faultAt(2, "e+");
        faultAt(1, "(");
        faultAt(2, "(e");
        faultAt(5, "!!!!!");
        faultAt(2, "1<");
        faultAt(50, "e+".repeat(25));
        faultAt(50, "(" + "e+".repeat(24) + "e");
    }

    /** Of all bytes the few that are a TEXT, and the few that may stand behind a NAME. */
    private static void eachByte() {
        KnivesGround x = new KnivesGround();
        for (int i = 0; i < 256; i++) {
            boolean isText = "0123456789ead".indexOf(i) >= 0;
            boolean isOpen = i == '!' || i == '(';
            x.feed(i, 1);
            Edges.is("byte " + i, x.text(0), isText ? 1 : isOpen ? -11 : -10);
            boolean joins = "|&<=>+-*/%".indexOf(i) >= 0;
            x = i % 100 == 0 ? new KnivesGround() : x;
            x.feed('e' | i << 8, 2);
            Edges.is("e and byte " + i, x.text(0), joins ? -12 : -11);
            x.feed('9' | i << 8, 2);
            boolean isDigit = i >= '0' && i <= '9';
            Edges.is("9 and byte " + i, x.text(0), isDigit ? 1 : joins ? -12 : -11);
            x = i % 60 == 0 ? new KnivesGround() : x;
        }
    }

    private static void uses() {
        Edges.says(Edges.TERMS, "USES: 0 GRINDS, NAMES e EDGE, a AGE, d the rest of DAY by 7;");
        KnivesGround x = new KnivesGround();
        x.quarrel(8, 5, 40, -1);
        x.change(0, 3, 3);
        x.change(0, 2, 1);
        Due.text(x, 0, "e+a+d*10");
        int[] days = {0, 1, 6, 7, 8, 13, 14};
        int[] gains = {43, 53, 103, 43, 53, 103, 43};
        for (int i = 0; i < days.length; i++) {
            Edges.toDay(x, days[i]);
            Edges.is("DAY " + days[i], x.ofQuarrel(0, 7), Math.min(99, gains[i]));
        }
        Edges.is("no m", Due.text(x, 0, "m"), -10);
        Edges.says(Edges.TERMS, "held within 0 to 99; without a TEXT 20.");
        gives(99, "99");
        gives(99, "100");
        gives(99, "9999*9999");
        gives(0, "0-1");
        gives(0, "0-9999");
        Edges.is("without", new KnivesGround().law(0, 99, 99, 99), 20);
        Edges.is("without, below 0", new KnivesGround().law(0, -1, -1, -1), 20);
        Edges.says(Edges.TERMS, "1 HARMS, NAMES e EDGE, a AGE, m m;");
        KnivesGround y = new KnivesGround();
        y.quarrel(8, 5, 40, -1);
        y.change(0, 3, 3);
        Due.text(y, 1, "e+a*2+m");
        y.days(1);
        Edges.is("40, 3, 8", y.count(4), 54);
        Edges.is("no d", Due.text(y, 1, "d"), -10);
        Edges.says(Edges.TERMS, "held within 0 to 99; without a TEXT 9-e/11.");
        int[][] due = {{0, 9}, {10, 9}, {11, 8}, {98, 1}, {99, 0}, {109, 0}, {110, 0}, {99999, 0}, {-989, 98},
            {-990, 99}, {-1001, 99}, {Integer.MAX_VALUE, 0}, {Integer.MIN_VALUE, 99}};
        for (int[] d : due) {
            Edges.is("without, e " + d[0], new KnivesGround().law(1, d[0], 50, 50), d[1]);
        }
        Due.text(y, 1, "e");
        Edges.is("100", y.law(1, 100, 0, 0), 99);
        Edges.is("-1", y.law(1, -1, 0, 0), 0);
    }

    // ---- promises 9 to 11

    private static void feed() {
        Edges.says(9, "The n lowest bytes (1 .. 8) of a word, the lowest first, come to THE TAPE: how many there are.");
        long word = Due.word("1+2+3+4e");
        for (int n = 1; n <= 8; n++) {
            KnivesGround x = new KnivesGround();
            Edges.is("n " + n, x.feed(word, n), n);
            Edges.is("read, n " + n, x.text(0), n == 8 ? -17 : n % 2 == 0 ? -10 - n : 1);
            int[] sums = {20, 1, 20, 3, 20, 6, 20, 10, 20};
            Edges.is("the lowest first, n " + n, x.law(0, 0, 0, 0), sums[n]);
        }
        KnivesGround y = new KnivesGround();
        y.feed(-1L, 3);
        Edges.is("more come behind", y.feed('e', 1), 4);
        Edges.is("no bytes", y.feed(0L, 0), Due.BEYOND);
        Edges.is("nine", y.feed(0L, 9), Due.BEYOND);
        Edges.is("less than none", y.feed(0L, -1), Due.BEYOND);
        Edges.is("they are 4", y.count(8), 4);
        KnivesGround z = new KnivesGround();
        z.feed(Long.MIN_VALUE | '7', 8);
        Edges.is("bytes 0 are bytes", z.text(0), -11);
        z.feed('7' | 0xee00L, 1);
        Edges.is("what is above the n lowest doesn't come", z.text(0), 1);
        Edges.says(9, "FULL.");
        KnivesGround w = new KnivesGround();
        for (int i = 0; i < 6; i++) {
            Due.feed(w, "1+1+1+1+");
        }
        Edges.is("48 and 3", w.feed(Due.word("1+1"), 3), Due.FULL);
        Edges.is("not one of them", w.count(8), 48);
        Edges.is("48 and 2", w.feed(Due.word("+1"), 2), 50);
        Edges.is("50 and 1", w.feed('1', 1), Due.FULL);
        Edges.is("none was lost or came", w.text(0), -58);
        Edges.is("it is empty again", w.feed('1', 1), 1);
    }

    private static void text() {
        Edges.says(10, "THE TAPE, which is empty then, is the TEXT of a USE (0, 1), in place of one ahead: 1.");
        KnivesGround x = new KnivesGround();
        Edges.is("USE 0", Due.text(x, 0, "7"), 1);
        Edges.is("empty then", x.count(8), 0);
        Edges.is("USE 1", Due.text(x, 1, "8"), 1);
        Edges.is("each has its own, 0", x.law(0, 0, 0, 0), 7);
        Edges.is("each has its own, 1", x.law(1, 0, 0, 0), 8);
        Edges.is("a longer one", Due.text(x, 0, "1+2+3"), 1);
        Edges.is("in place of 7", x.law(0, 0, 0, 0), 6);
        Edges.is("a shorter one", Due.text(x, 0, "4"), 1);
        Edges.is("in place of the longer one", x.law(0, 0, 0, 0), 4);
        Edges.is("USE 1 stays", x.law(1, 0, 0, 0), 8);
        for (int i = 0; i < 60; i++) {
            Due.text(x, i % 2, "1+2+" + i);
            Edges.is("one of many, " + i, x.law(i % 2, 0, 0, 0), 3 + i);
        }
        Due.text(x, 0, "4");
        Due.text(x, 1, "8");
        Edges.says(10, "BEYOND (THE TAPE stays).");
        Due.feed(x, "9+");
        Edges.is("USE 2", x.text(2), Due.BEYOND);
        Edges.is("USE -1", x.text(-1), Due.BEYOND);
        Edges.is("two bytes", x.count(8), 2);
        Edges.is("they are", Due.text(x, 0, "1"), 1);
        Edges.is("9+1", x.law(0, 0, 0, 0), 10);
        Edges.says(10, "-10 less the FAULT (no ERROR; the one ahead stays; THE TAPE is empty, too).");
        Edges.is("place 0", Due.text(x, 0, "+"), -10);
        Edges.is("an empty tape", x.text(0), -10);
        Edges.is("place 3", Due.text(x, 0, "5*6)"), -13);
        Edges.is("the one ahead stays", x.law(0, 0, 0, 0), 10);
        Edges.is("the tape is empty, too", x.count(8), 0);
        Edges.is("no ERROR but the two", x.told(1), 2);
        KnivesGround y = new KnivesGround();
        Edges.is("a FAULT at first", Due.text(y, 0, "5-"), -12);
        Edges.is("without a TEXT still", y.law(0, 0, 0, 0), 20);
        Edges.is("a FAULT at first, USE 1", Due.text(y, 1, "5-"), -12);
        Edges.is("without a TEXT still, USE 1", y.law(1, 0, 0, 0), 9);
    }

    private static void law() {
        Edges.says(11, "What a USE gives with its NAMES in order as a, b, c.");
        KnivesGround x = new KnivesGround();
        String[] names = {"e", "a", "d", "e", "a", "m"};
        for (int i = 0; i < names.length; i++) {
            Due.text(x, i / 3, names[i]);
            Edges.is(names[i] + " of USE " + i / 3, x.law(i / 3, 11, 22, 33), 11 * (i % 3 + 1));
        }
        Due.text(x, 0, "(e<0)+(a<0)*2+(d>0)*4");
        Edges.is("any numbers", x.law(0, Integer.MIN_VALUE, -1, Integer.MAX_VALUE), 7);
        Edges.is("other any numbers", x.law(0, Integer.MAX_VALUE, Integer.MIN_VALUE, 0), 2);
    }
}
