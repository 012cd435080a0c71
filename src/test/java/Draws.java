/** Numbers and texts by draws, the same ones in each run of a test. */
final class Draws {
    private int z;

    Draws(int seed) {
        z = seed;
    }

    /** One of 0 .. n - 1. */
    int below(int n) {
        z = z * 1103515245 + 12345;
        return (z >>> 8) % n;
    }

    boolean once(int in) {
        return below(in) == 0;
    }

    /** Most often within the bounds, now and then on one of them, seldom outside. */
    int near(int least, int most) {
        int draw = below(60);
        if (draw < 2) {
            return once(2) ? least - 1 : most + 1;
        }
        if (draw == 2) {
            return once(2) ? Integer.MIN_VALUE : Integer.MAX_VALUE;
        }
        if (draw < 12) {
            return once(2) ? least : Math.max(least, most);
        }
        return least + below(Math.max(1, most - least + 1));
    }

    int any() {
        int[] edges = {0, 1, -1, 255, 256, 65535, 65536, Integer.MAX_VALUE, Integer.MIN_VALUE, -1000000001};
        return once(4) ? edges[below(edges.length)] : once(2) ? below(2000) - 1000 : below(1 << 24) * 256 + below(256);
    }

    String text(String names) {
        return text(0, names);
    }

    private String text(int depth, String names) {
        int left = below(10);
        if (depth >= 3 || left < 3) {
            return once(3) ? "" + below(once(4) ? 10000 : 70) : "" + names.charAt(below(3));
        }
        if (left == 3) {
            return "!(" + text(depth + 1, names) + ")";
        }
        if (left == 4) {
            return "(" + text(depth + 1, names) + ")";
        }
        char sign = "|&<=>+-*/%+-*/%+".charAt(below(16));
        return side(depth, names, sign) + sign + side(depth, names, sign);
    }

    private String side(int depth, String names, char sign) {
        String side = text(depth + 1, names);
        return "<=>".indexOf(sign) >= 0 && side.matches(".*[<=>|&].*") ? "(" + side + ")" : side;
    }
}
