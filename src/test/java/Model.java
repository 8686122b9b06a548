import java.util.ArrayList;
import java.util.Comparator;
import java.util.List;
import java.util.NoSuchElementException;
import java.util.Set;
import java.util.TreeMap;
import java.util.TreeSet;

/** The document once more, slow and plain: after each change all is found anew from the references. */
final class Model {
    private final TreeMap<Integer, TreeSet<Integer>> refs = new TreeMap<>();
    private final List<Integer> years = new ArrayList<>();
    private List<TreeSet<Integer>> fields = new ArrayList<>();
    private List<List<Integer>> ways = new ArrayList<>();
    private int[][] counts = new int[12][12];
    private int[][] weights = new int[12][12];
    private int total = 0;

    int come(int year, int references) {
        int least = years.isEmpty() ? 0 : years.get(years.size() - 1);
        TreeSet<Integer> cited = new TreeSet<>();
        for (int bit = 0; bit < 32; bit++) {
            if ((references >>> bit & 1) == 1) {
                cited.add(bit);
            }
        }
        if (year < least || year > 99 || !refs.keySet().containsAll(cited)) {
            throw new IllegalArgumentException();
        }
        if (years.size() == 12) {
            throw new IllegalStateException();
        }
        years.add(year);
        refs.put(years.size() - 1, cited);
        findAnew();
        return years.size() - 1;
    }

    int withdraw(int paper) {
        int losing = citers(paper).size();
        refs.remove(paper);
        refs.values().forEach(cited -> cited.remove(paper));
        findAnew();
        return losing;
    }

    private void findAnew() {
        findWeights();
        fields = allFields();
        ways = wholeWays();
        counts = new int[12][12];
        for (List<Integer> way : ways) {
            for (int place = 1; place < way.size(); place++) {
                counts[way.get(place)][way.get(place - 1)]++;
            }
        }
    }

    private void findWeights() {
        weights = new int[12][12];
        total = 0;
        for (int paper : refs.keySet()) {
            for (int other : refs.keySet()) {
                if (paper != other) {
                    weights[paper][other] = shared(paper, other) + joint(paper, other);
                    total += paper < other ? weights[paper][other] : 0;
                }
            }
        }
    }

    int papers() {
        return refs.size();
    }

    int references(int paper) {
        return sum(cited(paper));
    }

    int citing(int paper) {
        return sum(citers(paper));
    }

    int shared(int paper, int other) {
        return common(cited(paper), cited(other));
    }

    int joint(int paper, int other) {
        return common(citers(paper), citers(other));
    }

    int total() {
        return total;
    }

    int likenessNumerator(int paper, int other) {
        return likeness(paper, other)[0];
    }

    int likenessDenominator(int paper, int other) {
        return likeness(paper, other)[1];
    }

    int fieldOf(int paper) {
        there(paper);
        for (TreeSet<Integer> field : fields) {
            if (field.contains(paper)) {
                return field.first();
            }
        }
        throw new AssertionError("a paper without a field");
    }

    int fields() {
        return fields.size();
    }

    int gain(int field, int other) {
        TreeSet<Integer> one = field(field);
        TreeSet<Integer> two = field(other);
        if (field == other) {
            throw new IllegalArgumentException();
        }
        return gain(one, two);
    }

    int split(int field) {
        TreeSet<Integer> all = field(field);
        int best = 0;
        int least = 0;
        for (int mask = 0; mask < 4096; mask++) {
            if ((mask & ~sum(all)) != 0) {
                continue;
            }
            TreeSet<Integer> part = new TreeSet<>();
            TreeSet<Integer> rest = new TreeSet<>();
            for (int paper : all) {
                ((mask >> paper & 1) == 1 ? part : rest).add(paper);
            }
            if (part.contains(field) && !rest.isEmpty() && gain(part, rest) < least) {
                best = mask;
                least = gain(part, rest);
            }
        }
        return best;
    }

    int count(int paper, int cited) {
        there(cited);
        if (!cited(paper).contains(cited)) {
            throw new NoSuchElementException();
        }
        return counts[paper][cited];
    }

    int ways() {
        return ways.size();
    }

    int mainLength() {
        return main().size();
    }

    int mainAt(int place) {
        List<Integer> main = main();
        if (place < 0 || place >= main.size()) {
            throw new IndexOutOfBoundsException();
        }
        return main.get(place);
    }

    long mainSum() {
        return sumOfWay(main());
    }

    int rise(int paper, int year) {
        TreeSet<Integer> citers = citers(paper);
        yearInRange(year);
        int rise = 0;
        for (int citer : citers) {
            rise += years.get(citer) == year ? 1 : years.get(citer) == year - 1 ? -1 : 0;
        }
        return rise;
    }

    int riser(int year) {
        yearInRange(year);
        return refs.keySet().stream()
                .max(Comparator.<Integer>comparingInt(paper -> rise(paper, year)).thenComparing(Comparator.reverseOrder()))
                .orElse(-1);
    }

    int heir(int paper) {
        return citers(paper).stream()
                .max(Comparator.<Integer>comparingInt(citer -> shared(paper, citer)).thenComparing(Comparator.reverseOrder()))
                .orElse(-1);
    }

    private void there(int paper) {
        if (!refs.containsKey(paper)) {
            throw new NoSuchElementException();
        }
    }

    private static void yearInRange(int year) {
        if (year < 0 || year > 99) {
            throw new IllegalArgumentException();
        }
    }

    private TreeSet<Integer> cited(int paper) {
        there(paper);
        return refs.get(paper);
    }

    private TreeSet<Integer> citers(int paper) {
        there(paper);
        TreeSet<Integer> citers = new TreeSet<>();
        refs.forEach((citer, cited) -> {
            if (cited.contains(paper)) {
                citers.add(citer);
            }
        });
        return citers;
    }

    private static int common(Set<Integer> one, Set<Integer> two) {
        TreeSet<Integer> both = new TreeSet<>(one);
        both.retainAll(two);
        return both.size();
    }

    private static int sum(Set<Integer> papers) {
        return papers.stream().mapToInt(paper -> 1 << paper).sum();
    }

    private int[] likeness(int paper, int other) {
        int s = shared(paper, other);
        int ab = cited(paper).size() * cited(other).size();
        if (ab == 0) {
            return new int[] {0, 1};
        }
        int a = s * s;
        int b = ab;
        while (b != 0) {
            int rest = a % b;
            a = b;
            b = rest;
        }
        return new int[] {s * s / a, ab / a};
    }

    private int strength(Set<Integer> papers) {
        int strength = 0;
        for (int paper : papers) {
            for (int other : refs.keySet()) {
                strength += weights[paper][other];
            }
        }
        return strength;
    }

    private int gain(Set<Integer> one, Set<Integer> two) {
        int between = 0;
        for (int paper : one) {
            for (int other : two) {
                between += weights[paper][other];
            }
        }
        return 2 * total * between - strength(one) * strength(two);
    }

    private TreeSet<Integer> field(int number) {
        for (TreeSet<Integer> field : fields) {
            if (field.first() == number) {
                return field;
            }
        }
        throw new NoSuchElementException();
    }

    /** The fields, those with the lower numbers first. */
    private List<TreeSet<Integer>> allFields() {
        List<TreeSet<Integer>> fields = new ArrayList<>();
        refs.keySet().forEach(paper -> fields.add(new TreeSet<>(Set.of(paper))));
        while (true) {
            int greatest = 0;
            TreeSet<Integer> into = null;
            TreeSet<Integer> from = null;
            for (int i = 0; i < fields.size(); i++) {
                for (int j = i + 1; j < fields.size(); j++) {
                    int gain = gain(fields.get(i), fields.get(j));
                    if (gain > greatest) {
                        greatest = gain;
                        into = fields.get(i);
                        from = fields.get(j);
                    }
                }
            }
            if (into == null) {
                return fields;
            }
            into.addAll(from);
            fields.remove(from);
        }
    }

    private List<List<Integer>> wholeWays() {
        List<List<Integer>> ways = new ArrayList<>();
        refs.forEach((paper, cited) -> {
            if (cited.isEmpty()) {
                goOn(new ArrayList<>(List.of(paper)), ways);
            }
        });
        return ways;
    }

    private void goOn(List<Integer> way, List<List<Integer>> ways) {
        TreeSet<Integer> citers = citers(way.get(way.size() - 1));
        if (citers.isEmpty()) {
            ways.add(new ArrayList<>(way));
        }
        for (int citer : citers) {
            way.add(citer);
            goOn(way, ways);
            way.remove(way.size() - 1);
        }
    }

    private long sumOfWay(List<Integer> way) {
        long sum = 0;
        for (int place = 1; place < way.size(); place++) {
            sum += counts[way.get(place)][way.get(place - 1)];
        }
        return sum;
    }

    private List<Integer> main() {
        List<Integer> main = List.of();
        long greatest = -1;
        for (List<Integer> way : ways) {
            long sum = sumOfWay(way);
            if (sum > greatest || sum == greatest && isLower(way, main)) {
                main = way;
                greatest = sum;
            }
        }
        return main;
    }

    private static boolean isLower(List<Integer> way, List<Integer> other) {
        for (int place = 0; place < Math.min(way.size(), other.size()); place++) {
            int compared = way.get(place).compareTo(other.get(place));
            if (compared != 0) {
                return compared < 0;
            }
        }
        return false;
    }
}
