/** Ready-made literatures for the tests. */
final class Papers {
    private Papers() {
    }

    /** Papers of year 0 with these references, in their order. */
    static Cocite citing(int... references) {
        Cocite x = new Cocite();
        for (int cited : references) {
            x.come(0, cited);
        }
        return x;
    }

    /** Pairs of a year and references. */
    static Cocite ofYears(int... pairs) {
        Cocite x = new Cocite();
        for (int at = 0; at + 1 < pairs.length; at += 2) {
            x.come(pairs[at], pairs[at + 1]);
        }
        return x;
    }

    /** Twelve papers, each of which cites all before it. */
    static Cocite full() {
        Cocite x = new Cocite();
        for (int paper = 0; paper < 12; paper++) {
            x.come(0, (1 << paper) - 1);
        }
        return x;
    }

    /** The gain of two sets of papers of the literature with these references, told without Cocite. */
    static int gainOf(int one, int two, int... references) {
        int total = 0;
        int between = 0;
        int strength = 0;
        int otherStrength = 0;
        for (int a = 0; a < references.length; a++) {
            for (int b = 0; b < references.length; b++) {
                int weight = a == b ? 0 : weightOf(a, b, references);
                total += a < b ? weight : 0;
                between += (one >> a & 1) * (two >> b & 1) * weight;
                strength += (one >> a & 1) * weight;
                otherStrength += (two >> a & 1) * weight;
            }
        }
        return 2 * total * between - strength * otherStrength;
    }

    private static int weightOf(int a, int b, int[] references) {
        int weight = Integer.bitCount(references[a] & references[b]);
        for (int cited : references) {
            weight += cited >> a & cited >> b & 1;
        }
        return weight;
    }
}
