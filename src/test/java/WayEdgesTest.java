/** The edges of the terms of ways and of promises 17 to 21, a method for each sentence. */
public final class WayEdgesTest {
    private static final Check CHECK = new Check();

    public static void main(String[] args) {
        withoutPapers();
        aWayOfOnePaper();
        eachCitedByTheNext();
        wholeFromTheFirstToTheLast();
        howManyWholeWays();
        countOfACiting();
        citingsThatAreNone();
        theGreatestSum();
        theLowerAtTheFirstPlaceWhereTheyDiffer();
        aliveToEachChange();
        sumOfAWay();
        howManyPapersTheMainWayHas();
        placesOfTheMainWay();
        papersThatAreNotThere();
        CHECK.end("WayEdgesTest");
    }

    private static void mainDue(String name, Cocite x, long sum, int... way) {
        CHECK.due(name + ": mainSum()", sum, x::mainSum);
        CHECK.due(name + ": mainLength()", way.length, x::mainLength);
        for (int place = 0; place < way.length; place++) {
            int asked = place;
            CHECK.due(name + ": mainAt(" + place + ")", way[place], () -> x.mainAt(asked));
        }
        CHECK.due(name + ": mainAt(" + way.length + ")", Check.INDEX_OUT_OF_BOUNDS, () -> x.mainAt(way.length));
    }

    /** "0 without papers": of mainLength and mainSum; there is no whole way either. */
    private static void withoutPapers() {
        Cocite x = new Cocite();
        CHECK.due("new: ways()", 0, x::ways);
        mainDue("new", x, 0);
        x.come(0, 0);
        CHECK.due("one: ways()", 1, x::ways);
        mainDue("one", x, 0, 0);
        x.withdraw(0);
        CHECK.due("one withdrawn: ways()", 0, x::ways);
        mainDue("one withdrawn", x, 0);
        Cocite full = Papers.full();
        for (int paper = 11; paper >= 0; paper--) {
            full.withdraw(paper);
        }
        CHECK.due("twelve withdrawn: ways()", 0, full::ways);
        mainDue("twelve withdrawn", full, 0);
    }

    /** "(A way of one paper has the sum 0.)" */
    private static void aWayOfOnePaper() {
        mainDue("two alone", Papers.citing(0, 0), 0, 0);
        CHECK.due("two alone: ways()", 2, () -> Papers.citing(0, 0).ways());
        Cocite x = Papers.citing(0, 0, 2);
        CHECK.due("one alone and two: ways()", 2, x::ways);
        mainDue("a sum of 1 is greater than that of one paper", x, 1, 1, 2);
        x.withdraw(2);
        mainDue("both alone again", x, 0, 0);
        x.withdraw(0);
        mainDue("1 alone", x, 0, 1);
        CHECK.due("twelve alone: ways()", 12, () -> Papers.citing(0, 0, 0, 0, 0, 0, 0, 0, 0, 0, 0, 0).ways());
    }

    /** "a row of papers, each of which is cited by the next one". */
    private static void eachCitedByTheNext() {
        Cocite x = Papers.citing(0, 1, 2);
        mainDue("a row of three", x, 2, 0, 1, 2);
        CHECK.due("cited by the next: count(1, 0)", 1, () -> x.count(1, 0));
        CHECK.due("not the other way round: count(0, 1)", Check.NO_SUCH_ELEMENT, () -> x.count(0, 1));
        CHECK.due("not past one: count(2, 0)", Check.NO_SUCH_ELEMENT, () -> x.count(2, 0));
    }

    /** "it is whole if its first one refers to none, and its last one is cited by none". */
    private static void wholeFromTheFirstToTheLast() {
        CHECK.due("a row of three is one whole way", 1, () -> Papers.citing(0, 1, 2).ways());
        Cocite x = Papers.citing(0, 1, 2, 4);
        CHECK.due("a row of four is one whole way", 1, x::ways);
        x.withdraw(1);
        CHECK.due("without 1: 0, and 2 3", 2, x::ways);
        mainDue("without 1", x, 1, 2, 3);
        Cocite first = Papers.citing(0, 0, 3);
        CHECK.due("two firsts, one last", 2, first::ways);
        Cocite last = Papers.citing(0, 1, 1);
        CHECK.due("one first, two lasts", 2, last::ways);
    }

    /** "Returns how many whole ways there are." */
    private static void howManyWholeWays() {
        int[] due = {0, 1, 1, 2, 4, 8, 16, 32, 64, 128, 256, 512, 1024};
        Cocite x = new Cocite();
        for (int papers = 0; papers <= 12; papers++) {
            CHECK.due(papers + " that cite all before: ways()", due[papers], x::ways);
            if (papers < 12) {
                x.come(0, (1 << papers) - 1);
            }
        }
        x.withdraw(4);
        CHECK.due("full but 4: ways()", 512, x::ways);
        Cocite layers = Papers.citing(0, 0, 0, 7, 7, 7, 56, 56, 56, 448, 448, 448);
        CHECK.due("four times three: ways()", 81, layers::ways);
        CHECK.due("four times three: count(3, 0)", 9, () -> layers.count(3, 0));
        CHECK.due("four times three: count(8, 5)", 9, () -> layers.count(8, 5));
        mainDue("four times three", layers, 27, 0, 3, 6, 9);
    }

    /** "The count of a citing is how many whole ways go over it." */
    private static void countOfACiting() {
        CHECK.due("one: count(1, 0)", 1, () -> Papers.citing(0, 1).count(1, 0));
        Cocite x = Papers.citing(0, 0, 3, 4, 4, 1);
        CHECK.due("0 2 3, 0 2 4: count(2, 0)", 2, () -> x.count(2, 0));
        CHECK.due("0 2 3, 1 2 3: count(3, 2)", 2, () -> x.count(3, 2));
        CHECK.due("0 5: count(5, 0)", 1, () -> x.count(5, 0));
        x.come(0, 8);
        CHECK.due("0 2 3 6, 1 2 3 6: count(6, 3)", 2, () -> x.count(6, 3));
        x.withdraw(1);
        CHECK.due("0 2 3 6: count(6, 3)", 1, () -> x.count(6, 3));
        CHECK.due("0 2 3 6, 0 2 4: count(2, 0)", 2, () -> x.count(2, 0));
        Cocite full = Papers.full();
        CHECK.due("full, the least: count(11, 0)", 1, () -> full.count(11, 0));
        CHECK.due("full, the most: count(1, 0)", 512, () -> full.count(1, 0));
        CHECK.due("full, the most: count(11, 10)", 512, () -> full.count(11, 10));
        CHECK.due("full: count(10, 1)", 1, () -> full.count(10, 1));
        CHECK.due("full: count(2, 0)", 256, () -> full.count(2, 0));
    }

    /** "or paper does not refer to cited". */
    private static void citingsThatAreNone() {
        Cocite x = Papers.citing(0, 0, 1, 4);
        CHECK.due("count(2, 0)", 1, () -> x.count(2, 0));
        CHECK.due("count(2, 1), not cited", Check.NO_SUCH_ELEMENT, () -> x.count(2, 1));
        CHECK.due("count(0, 2), turned round", Check.NO_SUCH_ELEMENT, () -> x.count(0, 2));
        CHECK.due("count(3, 0), past 2", Check.NO_SUCH_ELEMENT, () -> x.count(3, 0));
        CHECK.due("count(0, 0), itself", Check.NO_SUCH_ELEMENT, () -> x.count(0, 0));
        CHECK.due("count(3, 3), itself", Check.NO_SUCH_ELEMENT, () -> x.count(3, 3));
        CHECK.due("count(1, 0), neither cites", Check.NO_SUCH_ELEMENT, () -> x.count(1, 0));
        x.withdraw(2);
        CHECK.due("count(2, 0), withdrawn", Check.NO_SUCH_ELEMENT, () -> x.count(2, 0));
        CHECK.due("count(3, 2), its cited one withdrawn", Check.NO_SUCH_ELEMENT, () -> x.count(3, 2));
    }

    /** "The main way is the whole way with the greatest sum". */
    private static void theGreatestSum() {
        mainDue("2 against 1", Papers.citing(0, 0, 1, 2, 8), 2, 1, 3, 4);
        mainDue("2 against 2", Papers.citing(0, 0, 1, 2, 8, 4), 2, 0, 2, 5);
        mainDue("2 against 3", Papers.citing(0, 0, 1, 2, 8, 4, 16), 3, 1, 3, 4, 6);
        // 0 1 2 3 has three times 1; 4 6 7 and its like have 2 and 2.
        mainDue("not the longest", Papers.citing(0, 1, 2, 4, 0, 0, 48, 64, 64), 4, 4, 6, 7);
        // 0 1 5 and 0 1 6 have 2 and 1, 0 2 3 4 and its like have 1 at each citing.
        mainDue("over the greatest count, 3 against 3", Papers.citing(0, 1, 1, 4, 8, 2, 2), 3, 0, 1, 5);
        mainDue("not over the greatest count, 3 against 4", Papers.citing(0, 1, 1, 4, 8, 2, 2, 16), 4, 0, 2, 3, 4, 7);
    }

    /** "of several the one that has the lower paper at the first place where they differ". */
    private static void theLowerAtTheFirstPlaceWhereTheyDiffer() {
        mainDue("at the first place, 0 3 against 1 2", Papers.citing(0, 0, 2, 1), 1, 0, 3);
        mainDue("at the first place, 0 2 against 1 3", Papers.citing(0, 0, 1, 2), 1, 0, 2);
        mainDue("at the first place, 0 2 against 1 2", Papers.citing(0, 0, 3), 1, 0, 2);
        mainDue("at the second place, 0 1 4 against 0 2 3", Papers.citing(0, 1, 1, 4, 2), 2, 0, 1, 4);
        mainDue("at the second place, 0 1 3 against 0 2 3", Papers.citing(0, 1, 1, 6), 2, 0, 1, 3);
        mainDue("at the last place, 0 1 2 against 0 1 3", Papers.citing(0, 1, 2, 2), 3, 0, 1, 2);
        mainDue("at the last place, of three", Papers.citing(0, 1, 2, 2, 2), 4, 0, 1, 2);
        // 0 2 4 6 8 has four times 1, 1 5 7 and its like have 2 and 2.
        mainDue("the longer one", Papers.citing(0, 0, 1, 0, 4, 10, 16, 32, 64, 32), 4, 0, 2, 4, 6, 8);
        // 0 2 3 and its like have 2 and 2, 4 5 6 7 8 has four times 1.
        mainDue("the shorter one", Papers.citing(0, 0, 3, 4, 0, 16, 32, 64, 128, 4), 4, 0, 2, 3);
    }

    /** A paper that comes or goes changes the main way. */
    private static void aliveToEachChange() {
        Cocite x = Papers.citing(0, 0, 1, 2);
        mainDue("alike", x, 1, 0, 2);
        x.come(0, 8);
        mainDue("one came to 3", x, 2, 1, 3, 4);
        x.come(0, 4);
        mainDue("one came to 2 too", x, 2, 0, 2, 5);
        x.withdraw(5);
        mainDue("it went again", x, 2, 1, 3, 4);
        x.withdraw(3);
        mainDue("3 has gone", x, 1, 0, 2);
        x.withdraw(0);
        mainDue("0 has gone", x, 0, 1);
    }

    /** "The sum of a way is that of the counts of all its citings." */
    private static void sumOfAWay() {
        long[] due = {0, 0, 1, 2, 2 + 1 + 2, 4 + 2 + 2 + 4, 8 + 3 * 4 + 8, 16 + 4 * 8 + 16,
            32 + 5 * 16 + 32, 64 + 6 * 32 + 64, 128 + 7 * 64 + 128, 256 + 8 * 128 + 256, 512 + 9 * 256 + 512};
        Cocite x = new Cocite();
        for (int papers = 0; papers <= 12; papers++) {
            CHECK.due(papers + " that cite all before: mainSum()", due[papers], x::mainSum);
            if (papers < 12) {
                x.come(0, (1 << papers) - 1);
            }
        }
        x.withdraw(0);
        CHECK.due("full but 0: mainSum()", 256 + 8 * 128 + 256, x::mainSum);
    }

    /** "Returns how many papers the main way has". */
    private static void howManyPapersTheMainWayHas() {
        Cocite x = new Cocite();
        for (int papers = 0; papers <= 12; papers++) {
            CHECK.due("a row of " + papers + ": mainLength()", papers, x::mainLength);
            CHECK.due("a row of " + papers + ": mainSum()", Math.max(0, papers - 1), x::mainSum);
            if (papers < 12) {
                x.come(0, papers == 0 ? 0 : 1 << (papers - 1));
            }
        }
        x.withdraw(6);
        mainDue("a row of six, and one of five", x, 5, 0, 1, 2, 3, 4, 5);
    }

    /** "place: from 0"; "if there is no such place". */
    private static void placesOfTheMainWay() {
        Cocite none = new Cocite();
        Cocite one = Papers.citing(0);
        Cocite three = Papers.citing(0, 1, 2);
        Cocite twelve = Papers.full();
        for (int place : new int[] {Integer.MIN_VALUE, -32, -12, -2, -1, 12, 13, 32, 64, Integer.MAX_VALUE}) {
            CHECK.due("without papers: mainAt(" + place + ")", Check.INDEX_OUT_OF_BOUNDS, () -> none.mainAt(place));
            CHECK.due("one paper: mainAt(" + place + ")", Check.INDEX_OUT_OF_BOUNDS, () -> one.mainAt(place));
            CHECK.due("three papers: mainAt(" + place + ")", Check.INDEX_OUT_OF_BOUNDS, () -> three.mainAt(place));
            CHECK.due("twelve papers: mainAt(" + place + ")", Check.INDEX_OUT_OF_BOUNDS, () -> twelve.mainAt(place));
        }
        CHECK.due("without papers: mainAt(0)", Check.INDEX_OUT_OF_BOUNDS, () -> none.mainAt(0));
        CHECK.due("one paper: mainAt(0)", 0, () -> one.mainAt(0));
        CHECK.due("one paper: mainAt(1)", Check.INDEX_OUT_OF_BOUNDS, () -> one.mainAt(1));
        CHECK.due("three papers: mainAt(0)", 0, () -> three.mainAt(0));
        CHECK.due("three papers: mainAt(2)", 2, () -> three.mainAt(2));
        CHECK.due("three papers: mainAt(3)", Check.INDEX_OUT_OF_BOUNDS, () -> three.mainAt(3));
        CHECK.due("twelve papers: mainAt(0)", 0, () -> twelve.mainAt(0));
        CHECK.due("twelve papers: mainAt(11)", 11, () -> twelve.mainAt(11));
        three.withdraw(2);
        CHECK.due("two of three papers: mainAt(1)", 1, () -> three.mainAt(1));
        CHECK.due("two of three papers: mainAt(2)", Check.INDEX_OUT_OF_BOUNDS, () -> three.mainAt(2));
        // Papers are not there in a row of numbers: places are no papers.
        Cocite far = Papers.citing(0, 0, 2, 4);
        CHECK.due("1 2 3: mainAt(0)", 1, () -> far.mainAt(0));
        CHECK.due("1 2 3: mainAt(2)", 3, () -> far.mainAt(2));
        CHECK.due("1 2 3: mainAt(3)", Check.INDEX_OUT_OF_BOUNDS, () -> far.mainAt(3));
    }

    /** "if one of the papers has not come, or was withdrawn": of count. */
    private static void papersThatAreNotThere() {
        NoPaper.refused(CHECK, "count(?, 0)", (x, paper) -> x.count(paper, 0));
        NoPaper.refused(CHECK, "count(3, ?)", (x, paper) -> x.count(3, paper));
        NoPaper.refused(CHECK, "count(?, ?)", (x, paper) -> x.count(paper, paper));
        Cocite x = NoPaper.threeOfFive();
        CHECK.due("there, 0 3: count(3, 0)", 1, () -> x.count(3, 0));
        CHECK.due("there, 0 2 3: count(3, 2)", 1, () -> x.count(3, 2));
    }
}
