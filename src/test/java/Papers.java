/** Ready-made literatures for the tests. */
final class Papers {
    private Papers() {
    }

    /** Papers of year 0 with these references, in their order. */
    static Cocite citing(int... references) {
        Cocite x = new Cocite();
        for (int cited : references) {
            x.come(0, cited);
        }
        return x;
    }

    /** Pairs of a year and references. */
    static Cocite ofYears(int... pairs) {
        Cocite x = new Cocite();
        for (int at = 0; at + 1 < pairs.length; at += 2) {
            x.come(pairs[at], pairs[at + 1]);
        }
        return x;
    }

    /** Twelve papers, each of which cites all before it. */
    static Cocite full() {
        Cocite x = new Cocite();
        for (int paper = 0; paper < 12; paper++) {
            x.come(0, (1 << paper) - 1);
        }
        return x;
    }
}
