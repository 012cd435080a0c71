/** Promises 9 to 11: THE TAPE, TEXTS and their FAULTS, what they give. */
public final class TextTests {
    public static void main(String[] args) {
        feed();
        text();
        faults();
        faultsOfManyTexts();
        law();
        values();
        Due.end();
    }

    private static void feed() {
        KnivesGround x = new KnivesGround();
        Due.is("P9 n 0", x.feed(1, 0), Due.BEYOND);
        Due.is("P9 n 9", x.feed(1, 9), Due.BEYOND);
        Due.is("P9 n -1", x.feed(1, -1), Due.BEYOND);
        Due.is("P9 empty", x.count(8), 0);
        for (int i = 1; i <= 6; i++) {
            Due.is("P9 eight more", x.feed(-1L, 8), 8 * i);
        }
        Due.is("P9 51 are too many", x.feed(0, 3), Due.FULL);
        Due.is("P9 BEYOND ahead of FULL", x.feed(0, 9), Due.BEYOND);
        Due.is("P9 48 stay", x.count(8), 48);
        Due.is("P9 50", x.feed(0, 2), 50);
        Due.is("P9 no 51st", x.feed(0, 1), Due.FULL);
        KnivesGround y = new KnivesGround();
        y.feed(Due.word("12345678"), 2);
        y.feed(Due.word("0*3"), 1);
        Due.is("P9 the lowest bytes first", y.text(0) * 100 + y.law(0, 0, 0, 0), 199);
        y.feed(Due.word("1-9"), 1);
        y.feed(Due.word("7"), 1);
        y.text(0);
        Due.is("P9 one by one", y.law(0, 0, 0, 0), 17);
    }

    private static void text() {
        KnivesGround x = new KnivesGround();
        Due.is("P10 an empty tape", x.text(0), -10);
        Due.is("P10 a text", Due.text(x, 0, "e"), 1);
        Due.is("P10 the tape is empty", x.count(8), 0);
        Due.feed(x, "a");
        Due.is("P10 use 2", x.text(2), Due.BEYOND);
        Due.is("P10 use -1", x.text(-1), Due.BEYOND);
        Due.is("P10 the tape stays", x.count(8), 1);
        Due.is("P10 in place of the one ahead", x.text(0), 1);
        Due.is("P10 a it is", x.law(0, 1, 2, 3), 2);
        Due.is("P10 a fault", Due.text(x, 0, "e+d e"), -13);
        Due.is("P10 empty after a fault", x.count(8), 0);
        Due.is("P10 the one ahead stays", x.law(0, 1, 2, 3), 2);
        Due.is("P10 a fault is no ERROR", x.told(1), 2);
        Due.is("P10 d in USE 0", Due.text(x, 0, "d"), 1);
        Due.is("P10 m in USE 0", Due.text(x, 0, "m"), -10);
        Due.is("P10 d in USE 1", Due.text(x, 1, "1+d"), -12);
        Due.is("P10 m in USE 1", Due.text(x, 1, "m"), 1);
        Due.is("P10 each USE has its own", x.law(0, 5, 6, 7) + x.law(1, 5, 6, 8), 15);
    }

    private static void faults() {
        String[] good = {"1234", "0000", "e", "!e", "!!!!!e", "(((((e)))))", "!(!(!e))", "a<1&a>2|e=3",
            "(a<1)<(2<3)", "1+2-3*4/5%6", "!!!!!e+!!!!!e", "((((!e))))*(((((d)))))",
            "12345678".substring(0, 4) + "+12345678".substring(0, 5), "!1!".substring(0, 2)};
        KnivesGround x = new KnivesGround();
        for (String text : good) {
            Due.is("P10 " + text, Due.text(x, 0, text), 1);
        }
        Object[][] bad = {{"12345", 4}, {"1+12345", 6}, {" e", 0}, {"e ", 1}, {"ee", 1}, {"1e", 1}, {"e1", 1},
            {"+e", 0}, {"-1", 0}, {"e+", 2}, {"e+-1", 2}, {"e+*1", 2}, {"(", 1}, {"(e", 2}, {"(e+", 3}, {"()", 1},
            {")", 0}, {"e)", 1}, {"(e))", 3}, {"!", 1}, {"!+", 1}, {"e!", 1}, {"e!e", 1}, {"e(a)", 1}, {"a<1<2", 3},
            {"a=1=2", 3}, {"a<=1", 2}, {"e||a", 2}, {"e&&a", 2}, {"a<1|a<2<3", 7}, {"!!!!!!e", 5}, {"((((((e", 5},
            {"!(!(!(e", 5}, {"(((((!e)))))", 5}, {"(((((e)))))*(((((!", 17}, {"x", 0}, {"E", 0}, {"e\u00ff", 1},
            {"\u0000", 0}, {"(1,2)", 2}, {"e+1;", 3}};
        for (Object[] b : bad) {
            Due.is("P10 " + b[0], Due.text(x, 0, (String) b[0]), -10 - (Integer) b[1]);
        }
        String fifty = "e+".repeat(24) + "e+";
        Due.is("P10 fifty bytes end too early", Due.text(x, 0, fifty), -60);
        Due.is("P10 fifty bytes are a text", Due.text(x, 0, "e*".repeat(24) + "99"), 1);
    }

    /** The FAULT found another way: byte by byte, with what may come next. */
    private static void faultsOfManyTexts() {
        String signs = "ead12!()+-*/%<=>&|m e(a)!d";
        int z = 7;
        KnivesGround x = new KnivesGround();
        for (int i = 0; i < 20000; i++) {
            StringBuilder b = new StringBuilder();
            z = z * 1103515245 + 12345;
            int length = (z >>> 8) % 13;
            for (int j = 0; j < length; j++) {
                z = z * 1103515245 + 12345;
                b.append(signs.charAt((z >>> 8) % signs.length()));
            }
            int use = i % 2;
            int fault = Faults.of(b.toString(), use == 0 ? "ead" : "eam");
            Due.is("P10 use " + use + " " + b, Due.text(x, use, b.toString()), fault < 0 ? 1 : -10 - fault);
        }
    }

    private static void law() {
        KnivesGround x = new KnivesGround();
        Due.is("P11 GRINDS without a TEXT", x.law(0, 99, -5, 6), 20);
        Due.is("P11 HARMS without a TEXT, 0", x.law(1, 0, 0, 0), 9);
        Due.is("P11 HARMS without a TEXT, 10", x.law(1, 10, 0, 0), 9);
        Due.is("P11 HARMS without a TEXT, 11", x.law(1, 11, 0, 0), 8);
        Due.is("P11 HARMS without a TEXT, 99", x.law(1, 99, 0, 0), 0);
        Due.is("P11 HARMS without a TEXT, 1000", x.law(1, 1000, 0, 0), 0);
        Due.is("P11 HARMS without a TEXT, far below", x.law(1, Integer.MIN_VALUE, 0, 0), 99);
        Due.is("P11 use 2", x.law(2, 0, 0, 0), Due.BEYOND);
        Due.is("P11 use -1", x.law(-1, 0, 0, 0), Due.BEYOND);
        Due.text(x, 0, "e*9-a*3+d");
        Due.text(x, 1, "e*9-a*3+m");
        Due.is("P11 e, a, d", x.law(0, 4, 5, 6), 27);
        Due.is("P11 e, a, m", x.law(1, 4, 5, 7), 28);
        Due.is("P11 held below", x.law(0, 0, 1, 0), 0);
        Due.is("P11 held above", x.law(0, 99, 0, 0), 99);
        Due.is("P11 any numbers", x.law(0, -1000, -3010, 7), 37);
    }

    private static void values() {
        Object[][] due = {{"2+3*4", 14}, {"(2+3)*4", 20}, {"20-7-5", 8}, {"90/5/3", 6}, {"50%17", 16},
            {"7/0", 0}, {"7%0", 0}, {"7/0+5", 5}, {"0-7/2+50", 47}, {"(0-7)/2+50", 47}, {"(0-7)%4+50", 47},
            {"1<2", 1}, {"2<1", 0}, {"2<2", 0}, {"2=2", 1}, {"2=3", 0}, {"3>2", 1}, {"2>3", 0}, {"2>2", 0},
            {"5|0", 1}, {"0|0", 0}, {"0|7", 1}, {"5&7", 1}, {"5&0", 0}, {"0&5", 0}, {"!0", 1}, {"!7", 0}, {"!!7", 1},
            {"!0+4", 5}, {"1|0&0", 1}, {"(1|0)&0", 0}, {"1+1<1+2", 1}, {"(0-3)|0", 1}, {"!(1=2)*9", 9},
            {"9999-9990", 9}, {"0012", 12},
            {"21*9999*9999>0", 1}, {"22*9999*9999<0", 1}, {"43*9999*9999/9999-400", 17},
            {"e", 31}, {"a", 41}, {"d", 5}, {"e+a+d", 77}, {"e=31&a=41&d=5", 1}};
        KnivesGround x = new KnivesGround();
        for (Object[] d : due) {
            Due.is("P11 reads " + d[0], Due.text(x, 0, (String) d[0]), 1);
            Due.is("P11 " + d[0], x.law(0, 31, 41, 5), (Integer) d[1]);
        }
        Due.text(x, 0, "e/a<0");
        Due.is("P11 the least by -1 goes round", x.law(0, Integer.MIN_VALUE, -1, 0), 1);
        Due.text(x, 0, "e%a=0");
        Due.is("P11 the rest of the least by -1", x.law(0, Integer.MIN_VALUE, -1, 0), 1);
        Due.text(x, 0, "e+1<0");
        Due.is("P11 ints go round", x.law(0, Integer.MAX_VALUE, 0, 0), 1);
    }
}
