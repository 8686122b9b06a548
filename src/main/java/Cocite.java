import java.util.NoSuchElementException;

/** A mapper of a growing literature: papers, counts, fields, ways, risers and heirs. */
public final class Cocite {
    public static final int NONE = -1;

    private static final int MOST_PAPERS = 12;
    private static final int LAST_YEAR = 99;

    private final Shelf shelf;
    private final Grouping grouping;
    private final Routes routes;

    public Cocite() {
        shelf = new Shelf();
        grouping = new Grouping();
        routes = new Routes();
    }

    // ---- papers

    public int come(int year, int references) throws IllegalArgumentException, IllegalStateException {
        if (!shelf.takesYear(year)) {
            throw new IllegalArgumentException("the year is out of range");
        }
        if (!shelf.hasAll(references)) {
            throw new IllegalArgumentException("a paper that is referred to is not there");
        }
        if (shelf.isFull()) {
            throw new IllegalStateException("all papers have come");
        }
        int paper = shelf.put(year, references);
        mapAnew();
        return paper;
    }

    public int withdraw(int paper) throws NoSuchElementException {
        requirePaper(paper);
        int losing = Integer.bitCount(shelf.citersOf(paper));
        shelf.take(paper);
        mapAnew();
        return losing;
    }

    public int papers() {
        return Integer.bitCount(shelf.allThere());
    }

    public int references(int paper) throws NoSuchElementException {
        requirePaper(paper);
        return shelf.referredBy(paper);
    }

    public int citing(int paper) throws NoSuchElementException {
        requirePaper(paper);
        return shelf.citersOf(paper);
    }

    // ---- counts

    public int shared(int paper, int other) throws NoSuchElementException {
        requirePaper(paper);
        requirePaper(other);
        return shelf.sharedOf(paper, other);
    }

    public int joint(int paper, int other) throws NoSuchElementException {
        requirePaper(paper);
        requirePaper(other);
        return shelf.jointOf(paper, other);
    }

    public int totalAnew() {
        return shelf.weightsFromReferences();
    }

    public int total() {
        return shelf.weightsKept();
    }

    public int likenessNumerator(int paper, int other) throws NoSuchElementException {
        requirePaper(paper);
        requirePaper(other);
        int common = shelf.sharedOf(paper, other);
        return lowestTerm(common * common, common * common, referencePairs(paper, other));
    }

    public int likenessDenominator(int paper, int other) throws NoSuchElementException {
        requirePaper(paper);
        requirePaper(other);
        int common = shelf.sharedOf(paper, other);
        int pairs = referencePairs(paper, other);
        return pairs == 0 ? 1 : lowestTerm(pairs, common * common, pairs);
    }

    // ---- fields

    public int fieldOf(int paper) throws NoSuchElementException {
        requirePaper(paper);
        return grouping.groupOf(paper);
    }

    public int fields() {
        return Integer.bitCount(grouping.allGroups());
    }

    public int gain(int field, int other) throws NoSuchElementException, IllegalArgumentException {
        requireField(field);
        requireField(other);
        if (field == other) {
            throw new IllegalArgumentException("both fields are the same");
        }
        return grouping.gainOfJoining(field, other);
    }

    public int split(int field) throws NoSuchElementException {
        requireField(field);
        return grouping.splitOf(field);
    }

    // ---- ways

    public int count(int paper, int cited) throws NoSuchElementException {
        requirePaper(paper);
        requirePaper(cited);
        if (!shelf.cites(paper, cited)) {
            throw new NoSuchElementException("the paper does not refer to the other one");
        }
        return routes.countOf(paper, cited);
    }

    public int ways() {
        return routes.wholeWays();
    }

    public int mainLength() {
        return routes.lengthOfMain();
    }

    public int mainAt(int place) throws IndexOutOfBoundsException {
        if (place < 0 || place >= routes.lengthOfMain()) {
            throw new IndexOutOfBoundsException("the main way has no such place");
        }
        return routes.paperOfMain(place);
    }

    public long mainSum() {
        return routes.sumOfMain();
    }

    // ---- risers and heirs

    public int rise(int paper, int year) throws NoSuchElementException, IllegalArgumentException {
        requirePaper(paper);
        requireYear(year);
        return shelf.riseOf(paper, year);
    }

    public int riser(int year) throws IllegalArgumentException {
        requireYear(year);
        int best = NONE;
        int greatest = 0;
        for (int paper = 0; paper < MOST_PAPERS; paper++) {
            if (shelf.has(paper)) {
                int rising = shelf.riseOf(paper, year);
                if (best == NONE || rising > greatest) {
                    best = paper;
                    greatest = rising;
                }
            }
        }
        return best;
    }

    public int heir(int paper) throws NoSuchElementException {
        requirePaper(paper);
        int best = NONE;
        int most = 0;
        for (int citer = 0; citer < MOST_PAPERS; citer++) {
            if (shelf.cites(citer, paper)) {
                int common = shelf.sharedOf(paper, citer);
                if (best == NONE || common > most) {
                    best = citer;
                    most = common;
                }
            }
        }
        return best;
    }

    // Papers change at most 24 times in an object's life, so all maps are made at once then
    // and every question only reads them.
    private void mapAnew() {
        grouping.findAnew(shelf);
        routes.findAnew(shelf);
    }

    private void requirePaper(int paper) {
        if (!shelf.has(paper)) {
            throw new NoSuchElementException("the paper is not there");
        }
    }

    private void requireField(int field) {
        if (!grouping.isGroup(field)) {
            throw new NoSuchElementException("there is no such field");
        }
    }

    private static void requireYear(int year) {
        if (year < 0 || year > LAST_YEAR) {
            throw new IllegalArgumentException("the year is out of range");
        }
    }

    private int referencePairs(int paper, int other) {
        return Integer.bitCount(shelf.referredBy(paper)) * Integer.bitCount(shelf.referredBy(other));
    }

    /** A term of the fraction upper / lower, brought to lowest terms. */
    private static int lowestTerm(int term, int upper, int lower) {
        // Counting down shows the end of the loop; lower is at most 121 here.
        for (int divisor = lower; divisor > 1; divisor--) {
            if (upper % divisor == 0 && lower % divisor == 0) {
                return term / divisor;
            }
        }
        return term;
    }

    private static boolean holds(int set, int paper) {
        return paper >= 0 && paper < MOST_PAPERS && (set >> paper & 1) != 0;
    }

    /** The set of one paper; empty for a number that no paper can have. */
    private static int setOf(int paper) {
        return paper >= 0 && paper < MOST_PAPERS ? 1 << paper : 0;
    }

    /** A number for each paper. All indices into rows are looked at here; outside it holds 0. */
    private static final class Row {
        private final int[] cells = new int[MOST_PAPERS];

        int at(int paper) {
            return paper >= 0 && paper < cells.length ? cells[paper] : 0;
        }

        void set(int paper, int value) {
            if (paper >= 0 && paper < cells.length) {
                cells[paper] = value;
            }
        }

        void add(int paper, int step) {
            set(paper, at(paper) + step);
        }
    }

    /** A number for each two papers, the same both ways round. Outside it holds 0. */
    private static final class Table {
        private final int[] cells = new int[MOST_PAPERS * MOST_PAPERS];

        int at(int paper, int other) {
            int place = paper * MOST_PAPERS + other;
            boolean inside = paper >= 0 && paper < MOST_PAPERS && other >= 0 && other < MOST_PAPERS;
            return inside && place >= 0 && place < cells.length ? cells[place] : 0;
        }

        void set(int paper, int other, int value) {
            setOneWay(paper, other, value);
            setOneWay(other, paper, value);
        }

        void add(int paper, int other, int step) {
            int value = at(paper, other) + step;
            setOneWay(paper, other, value);
            setOneWay(other, paper, value);
        }

        private void setOneWay(int paper, int other, int value) {
            int place = paper * MOST_PAPERS + other;
            boolean inside = paper >= 0 && paper < MOST_PAPERS && other >= 0 && other < MOST_PAPERS;
            if (inside && place >= 0 && place < cells.length) {
                cells[place] = value;
            }
        }
    }

    /** The papers with their years, who cites whom, and the counts kept of that. */
    private static final class Shelf {
        private final Row years = new Row();
        private final Row referred = new Row();
        private final Row citers = new Row();
        private final Table sharedCounts = new Table();
        private final Table jointCounts = new Table();
        private int comeSoFar = 0;
        private int latestYear = 0;
        private int there = 0;

        boolean has(int paper) {
            return holds(there, paper);
        }

        boolean hasAll(int set) {
            return (set & ~there) == 0;
        }

        int allThere() {
            return there;
        }

        boolean isFull() {
            return comeSoFar >= MOST_PAPERS;
        }

        boolean takesYear(int year) {
            return year >= latestYear && year <= LAST_YEAR;
        }

        int referredBy(int paper) {
            return referred.at(paper);
        }

        int citersOf(int paper) {
            return citers.at(paper);
        }

        boolean cites(int paper, int cited) {
            return holds(referred.at(paper), cited);
        }

        int put(int year, int references) {
            int paper = comeSoFar;
            comeSoFar++;
            latestYear = year;
            years.set(paper, year);
            there |= setOf(paper);
            for (int cited = 0; cited < MOST_PAPERS; cited++) {
                if (holds(references, cited)) {
                    addCiting(paper, cited);
                }
            }
            return paper;
        }

        void take(int paper) {
            for (int other = 0; other < MOST_PAPERS; other++) {
                if (cites(paper, other)) {
                    dropCiting(paper, other);
                }
                if (cites(other, paper)) {
                    dropCiting(other, paper);
                }
            }
            there &= ~setOf(paper);
        }

        private void addCiting(int paper, int cited) {
            countCiting(paper, cited, 1);
            referred.set(paper, referred.at(paper) | setOf(cited));
            citers.set(cited, citers.at(cited) | setOf(paper));
        }

        private void dropCiting(int paper, int cited) {
            referred.set(paper, referred.at(paper) & ~setOf(cited));
            citers.set(cited, citers.at(cited) & ~setOf(paper));
            countCiting(paper, cited, -1);
        }

        // The citing itself must not be among the kept ones meanwhile: it makes a pair with
        // each of the others, and one with itself.
        private void countCiting(int paper, int cited, int step) {
            sharedCounts.add(paper, paper, step);
            jointCounts.add(cited, cited, step);
            for (int other = 0; other < MOST_PAPERS; other++) {
                if (cites(other, cited)) {
                    sharedCounts.add(paper, other, step);
                }
                if (cites(paper, other)) {
                    jointCounts.add(cited, other, step);
                }
            }
        }

        int sharedOf(int paper, int other) {
            return sharedCounts.at(paper, other);
        }

        int jointOf(int paper, int other) {
            return jointCounts.at(paper, other);
        }

        int weightOf(int paper, int other) {
            return sharedCounts.at(paper, other) + jointCounts.at(paper, other);
        }

        // A withdrawn paper has lost all its citings, so its weights are 0.
        int weightsKept() {
            int sum = 0;
            for (int paper = 0; paper < MOST_PAPERS; paper++) {
                for (int other = paper + 1; other < MOST_PAPERS; other++) {
                    sum += weightOf(paper, other);
                }
            }
            return sum;
        }

        int weightsFromReferences() {
            int sum = 0;
            for (int paper = 0; paper < MOST_PAPERS; paper++) {
                for (int other = paper + 1; other < MOST_PAPERS; other++) {
                    if (has(paper) && has(other)) {
                        sum += Integer.bitCount(referred.at(paper) & referred.at(other));
                        sum += referringToBoth(paper, other);
                    }
                }
            }
            return sum;
        }

        private int referringToBoth(int paper, int other) {
            int sum = 0;
            for (int citer = 0; citer < MOST_PAPERS; citer++) {
                if (cites(citer, paper) && cites(citer, other)) {
                    sum++;
                }
            }
            return sum;
        }

        int riseOf(int paper, int year) {
            return citersOfYear(paper, year) - citersOfYear(paper, year - 1);
        }

        private int citersOfYear(int paper, int year) {
            int sum = 0;
            for (int citer = 0; citer < MOST_PAPERS; citer++) {
                if (cites(citer, paper) && years.at(citer) == year) {
                    sum++;
                }
            }
            return sum;
        }
    }

    /** The fields of the papers and their best splits. */
    private static final class Grouping {
        private final Row groups = new Row();
        private final Row splits = new Row();
        private final Row paperStrengths = new Row();
        private final Row groupStrengths = new Row();
        private final Table paperWeights = new Table();
        private final Table groupWeights = new Table();
        private int allLowest = 0;
        private int weightOfAll = 0;

        int groupOf(int paper) {
            return groups.at(paper);
        }

        int allGroups() {
            return allLowest;
        }

        boolean isGroup(int paper) {
            return holds(allLowest, paper);
        }

        int splitOf(int group) {
            return splits.at(group);
        }

        int gainOfJoining(int group, int other) {
            int between = groupWeights.at(group, other);
            return gainFrom(between, groupStrengths.at(group), groupStrengths.at(other));
        }

        void findAnew(Shelf shelf) {
            partAll(shelf);
            boolean joined = true;
            for (int joins = 0; joined && joins < MOST_PAPERS; joins++) {
                joined = joinGreatest();
            }
            for (int group = 0; group < MOST_PAPERS; group++) {
                splits.set(group, isGroup(group) ? bestSplit(group) : 0);
            }
        }

        private int gainFrom(int between, int strength, int otherStrength) {
            return 2 * weightOfAll * between - strength * otherStrength;
        }

        private void partAll(Shelf shelf) {
            weightOfAll = shelf.weightsKept();
            allLowest = shelf.allThere();
            for (int paper = 0; paper < MOST_PAPERS; paper++) {
                groups.set(paper, shelf.has(paper) ? paper : NONE);
                int strength = 0;
                for (int other = 0; other < MOST_PAPERS; other++) {
                    int weight = paper == other ? 0 : shelf.weightOf(paper, other);
                    paperWeights.set(paper, other, weight);
                    groupWeights.set(paper, other, weight);
                    strength += weight;
                }
                paperStrengths.set(paper, strength);
                groupStrengths.set(paper, strength);
            }
        }

        private boolean joinGreatest() {
            int greatest = 0;
            int lower = NONE;
            int higher = NONE;
            for (int group = 0; group < MOST_PAPERS; group++) {
                for (int other = group + 1; other < MOST_PAPERS; other++) {
                    if (isGroup(group) && isGroup(other) && gainOfJoining(group, other) > greatest) {
                        greatest = gainOfJoining(group, other);
                        lower = group;
                        higher = other;
                    }
                }
            }
            if (greatest > 0) {
                join(lower, higher);
            }
            return greatest > 0;
        }

        private void join(int lower, int higher) {
            allLowest &= ~setOf(higher);
            groupStrengths.add(lower, groupStrengths.at(higher));
            for (int paper = 0; paper < MOST_PAPERS; paper++) {
                if (groups.at(paper) == higher) {
                    groups.set(paper, lower);
                }
                if (isGroup(paper) && paper != lower) {
                    groupWeights.add(lower, paper, groupWeights.at(higher, paper));
                }
            }
        }

        private int bestSplit(int group) {
            int others = membersOf(group) & ~setOf(group);
            int waysToSplit = (1 << Integer.bitCount(others)) - 1;
            int best = 0;
            int least = 0;
            int along = 0;
            for (int tried = 0; tried < waysToSplit; tried++) {
                int part = setOf(group) | along;
                int gained = gainOfParts(part, others & ~along);
                if (gained < least) {
                    least = gained;
                    best = part;
                }
                // The next greater set that holds none but the others: the borrow skips the gaps.
                along = (along - others) & others;
            }
            return best;
        }

        private int membersOf(int group) {
            int members = 0;
            for (int paper = 0; paper < MOST_PAPERS; paper++) {
                if (groups.at(paper) == group) {
                    members |= setOf(paper);
                }
            }
            return members;
        }

        private int gainOfParts(int part, int rest) {
            int between = 0;
            for (int paper = 0; paper < MOST_PAPERS; paper++) {
                if (holds(part, paper)) {
                    between += weightWithAll(paper, rest);
                }
            }
            return gainFrom(between, strengthOf(part), strengthOf(rest));
        }

        private int weightWithAll(int paper, int set) {
            int sum = 0;
            for (int other = 0; other < MOST_PAPERS; other++) {
                if (holds(set, other)) {
                    sum += paperWeights.at(paper, other);
                }
            }
            return sum;
        }

        private int strengthOf(int set) {
            int sum = 0;
            for (int paper = 0; paper < MOST_PAPERS; paper++) {
                if (holds(set, paper)) {
                    sum += paperStrengths.at(paper);
                }
            }
            return sum;
        }
    }

    /** The whole ways over the citings, and the main one. */
    private static final class Routes {
        private final Row waysBefore = new Row();
        private final Row waysAfter = new Row();
        private final Row sumsAfter = new Row();
        private final Row nexts = new Row();
        private final Row mainPapers = new Row();
        private int waysInAll = 0;
        private int mainPlaces = 0;
        private int greatestSum = 0;

        int countOf(int paper, int cited) {
            return waysBefore.at(cited) * waysAfter.at(paper);
        }

        int wholeWays() {
            return waysInAll;
        }

        int lengthOfMain() {
            return mainPlaces;
        }

        int paperOfMain(int place) {
            return mainPapers.at(place);
        }

        int sumOfMain() {
            return greatestSum;
        }

        // A paper refers to lower numbers alone: upwards all it refers to is known already,
        // downwards all that cite it.
        void findAnew(Shelf shelf) {
            for (int paper = 0; paper < MOST_PAPERS; paper++) {
                waysBefore.set(paper, sumOver(waysBefore, shelf.referredBy(paper)));
            }
            for (int paper = MOST_PAPERS - 1; paper >= 0; paper--) {
                waysAfter.set(paper, sumOver(waysAfter, shelf.citersOf(paper)));
                findNext(shelf, paper);
            }
            findMain(shelf);
        }

        /** The ways over all of a set; the one way that begins or ends here if it is empty. */
        private static int sumOver(Row ways, int set) {
            int sum = 0;
            for (int paper = 0; paper < MOST_PAPERS; paper++) {
                if (holds(set, paper)) {
                    sum += ways.at(paper);
                }
            }
            return set == 0 ? 1 : sum;
        }

        private void findNext(Shelf shelf, int paper) {
            int next = NONE;
            int greatest = 0;
            for (int citer = 0; citer < MOST_PAPERS; citer++) {
                if (shelf.cites(citer, paper)) {
                    int sum = countOf(citer, paper) + sumsAfter.at(citer);
                    if (next == NONE || sum > greatest) {
                        next = citer;
                        greatest = sum;
                    }
                }
            }
            nexts.set(paper, next);
            sumsAfter.set(paper, greatest);
        }

        private void findMain(Shelf shelf) {
            int first = NONE;
            greatestSum = 0;
            waysInAll = 0;
            for (int paper = 0; paper < MOST_PAPERS; paper++) {
                if (shelf.has(paper) && shelf.referredBy(paper) == 0) {
                    waysInAll += waysAfter.at(paper);
                    if (first == NONE || sumsAfter.at(paper) > greatestSum) {
                        first = paper;
                        greatestSum = sumsAfter.at(paper);
                    }
                }
            }
            follow(first);
        }

        private void follow(int first) {
            mainPlaces = 0;
            int paper = first;
            for (int place = 0; place < MOST_PAPERS && paper != NONE; place++) {
                mainPapers.set(place, paper);
                mainPlaces++;
                paper = nexts.at(paper);
            }
        }
    }
}
