/**
 * Objects that are made alike each time, and a probe that asks all that may be asked of one:
 * so a call has changed nothing if the probe of one with it and of one without it are alike.
 */
final class Twin {
    /** A call on an object. */
    interface Call {
        int on(KnivesGround x);
    }

    private Twin() {
    }

    /** A bit of each: quarrels, texts, sheets, bytes, numbers that wait, a trace, an IMAGE. */
    static KnivesGround some() {
        KnivesGround x = new KnivesGround();
        x.quarrel(4, 0, 30, -1);
        x.quarrel(14, 1, 40, 0);
        x.quarrel(25, 2, 10, -1);
        x.quarrel(48, 3, 55, 1);
        x.quarrel(62, 4, 90, 2);
        Due.text(x, 0, "e/9+7");
        Due.text(x, 1, "a+5-m");
        x.set(1, 3);
        x.set(2, 50);
        x.set(3, 700);
        x.days(2);
        Due.feed(x, "(a)");
        x.tell(3);
        x.image();
        x.become(2, 53);
        x.change(3, 2, 1);
        x.seed(-77);
        x.loose(1);
        x.voice(1, 3, 5);
        rows(x);
        Due.feed(x, "+1");
        x.tell(1);
        return x;
    }

    private static void rows(KnivesGround x) {
        int[] bits = {8, 16, 8};
        int[] many = {5, 12, 3};
        for (int sheet = 0; sheet < 3; sheet++) {
            x.sheet(sheet, bits[sheet], many[sheet]);
            for (int i = 0; i < many[sheet]; i++) {
                x.put(sheet, i, 20 * sheet + 20 + i);
            }
        }
    }

    /** Nothing more goes in: nine quarrels, 50 bytes, 20 numbers, DAY 9999. */
    static KnivesGround full() {
        KnivesGround x = new KnivesGround();
        Edges.toDay(x, 9999);
        for (int i = 0; i < 9; i++) {
            x.quarrel(10 * (i % 7) + i, i, 10 * i, i - 1);
        }
        Due.feed(x, "e+".repeat(25));
        for (int i = 0; i < 20; i++) {
            x.tell(i % 3);
        }
        rows(x);
        x.image();
        x.set(0, 4);
        return x;
    }

    /** All that tells of an object, but told(); the object is spoilt by it. */
    static String probe(KnivesGround x) {
        StringBuilder b = new StringBuilder();
        asked(x, b);
        for (int i = 0; i < 12; i++) {
            b.append(x.trace(i)).append(' ');
        }
        for (int sheet = 0; sheet < 4; sheet++) {
            b.append(x.judge(sheet)).append(' ').append(x.move(0, 0, sheet, 0, 0)).append(' ');
            for (int i = 0; i < 40 && x.move(sheet, i, sheet, 0, 1) == 1; i++) {
                b.append(x.edges(sheet) > 0 ? x.ofQuarrel(0, 3) : -1).append(' ');
            }
        }
        waiting(x, b);
        b.append(x.restore()).append(' ');
        asked(x, b);
        waiting(x, b);
        return b.append(x.image()).toString();
    }

    private static void asked(KnivesGround x, StringBuilder b) {
        for (int what = 0; what < 12; what++) {
            b.append(x.count(what)).append(' ');
        }
        for (int i = 0; i < 10 * x.count(0); i++) {
            b.append(x.ofQuarrel(i / 10, i % 10)).append(' ');
        }
        b.append(x.law(0, 81, 5, 3)).append(' ').append(x.law(1, 33, 21, 4)).append(' ');
    }

    /** What waits: numbers, bytes and the next draw. */
    private static void waiting(KnivesGround x, StringBuilder b) {
        b.append(x.check()).append(' ').append(x.count(9)).append(' ');
        b.append(x.text(0)).append(' ').append(x.count(8)).append(' ').append(x.law(0, 81, 5, 3)).append(' ');
        b.append(x.loose(1)).append(' ').append(x.count(3)).append(' ');
    }
}
