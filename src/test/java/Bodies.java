/** The BODIES of a QUARREL as Java's own classes have them; the KINDS are the classes under it. */
class Bodies {
    final int n;
    final int m;
    final StringBuilder trace = new StringBuilder();

    Bodies(int n, int m) {
        this.n = n;
        this.m = m;
    }

    static Bodies of(int kind, int n, int m) {
        switch (kind) {
            case 1: return new Grudge(n, m);
            case 2: return new Spat(n, m);
            case 3: return new Feud(n, m);
            case 4: return new Old(n, m);
            case 5: return new Sulk(n, m);
            case 6: return new Wrong(n, m);
            default: return new Bodies(n, m);
        }
    }

    int act(int act, int x) {
        return act == 0 ? grinds(x) : act == 1 ? cuts(x) : act == 2 ? sparks(x) : tells(x);
    }

    void begin(int body) {
        trace.append((char) body);
    }

    int grinds(int x) {
        begin(10);
        return x + n;
    }

    int cuts(int x) {
        begin(11);
        return grinds(x) * 2;
    }

    int sparks(int x) {
        begin(12);
        return x - m;
    }

    int tells(int x) {
        begin(13);
        return cuts(x) ^ sparks(x);
    }

    private static class Grudge extends Bodies {
        Grudge(int n, int m) {
            super(n, m);
        }

        @Override
        int grinds(int x) {
            begin(20);
            return super.grinds(x) * 3;
        }
    }

    private static class Spat extends Bodies {
        Spat(int n, int m) {
            super(n, m);
        }

        @Override
        int cuts(int x) {
            begin(30);
            return super.cuts(x) - sparks(1);
        }
    }

    private static class Feud extends Bodies {
        Feud(int n, int m) {
            super(n, m);
        }

        @Override
        int sparks(int x) {
            begin(40);
            return -super.sparks(x);
        }
    }

    private static final class Old extends Grudge {
        Old(int n, int m) {
            super(n, m);
        }

        @Override
        int tells(int x) {
            begin(50);
            return super.tells(x) - grinds(2);
        }
    }

    private static final class Sulk extends Spat {
        Sulk(int n, int m) {
            super(n, m);
        }

        @Override
        int cuts(int x) {
            begin(60);
            return super.cuts(x + 1);
        }
    }

    private static final class Wrong extends Feud {
        Wrong(int n, int m) {
            super(n, m);
        }

        @Override
        int sparks(int x) {
            begin(70);
            return super.sparks(x) ^ n;
        }

        @Override
        int tells(int x) {
            begin(71);
            return cuts(x) - super.tells(x);
        }
    }
}
