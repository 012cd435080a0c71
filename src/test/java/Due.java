/** What the tests share: it counts the answers that are not as due, and ends the test. */
final class Due {
    static final int BEYOND = -1000000001;
    static final int NONE = -1000000002;
    static final int STATE = -1000000003;
    static final int FULL = -1000000004;
    static final int KIND = -1000000005;

    private static int asked = 0;
    private static int wrong = 0;

    private Due() {
    }

    static void is(String what, long got, long want) {
        asked++;
        if (got != want) {
            wrong++;
            System.out.println(what + " answered " + got + ", due is " + want);
        }
    }

    /** Puts a text on THE TAPE, eight bytes at a time. */
    static void feed(KnivesGround x, String text) {
        for (int i = 0; i < text.length(); i += 8) {
            String part = text.substring(i, Math.min(text.length(), i + 8));
            x.feed(word(part), part.length());
        }
    }

    static long word(String part) {
        long word = 0;
        for (int i = part.length() - 1; i >= 0; i--) {
            word = word << 8 | (part.charAt(i) & 255);
        }
        return word;
    }

    static int text(KnivesGround x, int use, String text) {
        feed(x, text);
        return x.text(use);
    }

    static void end() {
        System.out.println(asked + " answers asked, " + wrong + " not as due");
        if (wrong != 0) {
            System.exit(1);
        }
    }
}
