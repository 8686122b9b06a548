/** Promises 17 to 21. */
public final class WaysTest {
    private static final Check CHECK = new Check();

    public static void main(String[] args) {
        noPapers();
        counts();
        mainWay();
        mainWaysAlike();
        waysOfOnePaper();
        afterWithdrawals();
        fullLiterature();
        CHECK.end("WaysTest");
    }

    private static void mainDue(String name, Cocite x, long sum, int... way) {
        CHECK.due(name + ": mainSum()", sum, x::mainSum);
        CHECK.due(name + ": mainLength()", way.length, x::mainLength);
        for (int place = 0; place < way.length; place++) {
            int asked = place;
            CHECK.due(name + ": mainAt(" + place + ")", way[place], () -> x.mainAt(asked));
        }
        CHECK.due(name + ": mainAt(-1)", Check.INDEX_OUT_OF_BOUNDS, () -> x.mainAt(-1));
        CHECK.due(name + ": mainAt(its length)", Check.INDEX_OUT_OF_BOUNDS, () -> x.mainAt(way.length));
        CHECK.due(name + ": mainAt(greatest int)", Check.INDEX_OUT_OF_BOUNDS, () -> x.mainAt(Integer.MAX_VALUE));
    }

    private static void noPapers() {
        Cocite x = new Cocite();
        CHECK.due("new: ways()", 0, x::ways);
        mainDue("new", x, 0);
        CHECK.due("new: count(0, 0)", Check.NO_SUCH_ELEMENT, () -> x.count(0, 0));
    }

    private static void counts() {
        // Whole ways: 0 2 4, 1 2 4, 0 2 5, 1 2 5, 0 3 5, 0 6.
        Cocite x = Papers.citing(0, 0, 3, 1, 4, 12, 1);
        CHECK.due("ways()", 6, x::ways);
        CHECK.due("count(2, 0)", 2, () -> x.count(2, 0));
        CHECK.due("count(2, 1)", 2, () -> x.count(2, 1));
        CHECK.due("count(3, 0)", 1, () -> x.count(3, 0));
        CHECK.due("count(4, 2)", 2, () -> x.count(4, 2));
        CHECK.due("count(5, 2)", 2, () -> x.count(5, 2));
        CHECK.due("count(5, 3)", 1, () -> x.count(5, 3));
        CHECK.due("count(6, 0)", 1, () -> x.count(6, 0));
        CHECK.due("count(0, 2), turned round", Check.NO_SUCH_ELEMENT, () -> x.count(0, 2));
        CHECK.due("count(3, 1), not cited", Check.NO_SUCH_ELEMENT, () -> x.count(3, 1));
        CHECK.due("count(4, 0), only by way of 2", Check.NO_SUCH_ELEMENT, () -> x.count(4, 0));
        CHECK.due("count(2, 2)", Check.NO_SUCH_ELEMENT, () -> x.count(2, 2));
        CHECK.due("count(7, 0)", Check.NO_SUCH_ELEMENT, () -> x.count(7, 0));
        CHECK.due("count(2, -1)", Check.NO_SUCH_ELEMENT, () -> x.count(2, -1));
        CHECK.due("count(34, 0)", Check.NO_SUCH_ELEMENT, () -> x.count(34, 0));
        CHECK.due("count(2, 32)", Check.NO_SUCH_ELEMENT, () -> x.count(2, 32));
    }

    private static void mainWay() {
        mainDue("over the most", Papers.citing(0, 0, 3, 1, 4, 12, 1), 4, 0, 2, 4);
        // 0 1 5 and 0 1 6 have 2 and 1, which is less than four times 1.
        mainDue("not over the greatest count", Papers.citing(0, 1, 1, 4, 8, 2, 2, 16), 4, 0, 2, 3, 4, 7);
        mainDue("beginning with a higher one", Papers.citing(0, 0, 2, 4, 1), 2, 1, 2, 3);
        mainDue("over a higher one", Papers.citing(0, 1, 1, 4), 2, 0, 2, 3);
        // 0 3 has 1; 1 2 3 and 1 2 4 have 2 and 1.
        mainDue("not by length alone", Papers.citing(0, 0, 2, 5, 4), 3, 1, 2, 3);
    }

    private static void mainWaysAlike() {
        mainDue("unlike at the first place", Papers.citing(0, 0, 1, 2), 1, 0, 2);
        mainDue("unlike in the middle", Papers.citing(0, 1, 1, 6), 2, 0, 1, 3);
        mainDue("unlike at the end", Papers.citing(0, 1, 2, 2), 3, 0, 1, 2);
        mainDue("unlike everywhere", Papers.citing(0, 0, 2, 1), 1, 0, 3);
    }

    private static void waysOfOnePaper() {
        Cocite x = Papers.citing(0, 0, 0);
        CHECK.due("three alone: ways()", 3, x::ways);
        mainDue("three alone", x, 0, 0);
        x.come(0, 4);
        CHECK.due("two alone: ways()", 3, x::ways);
        mainDue("two alone", x, 1, 2, 3);
        x.withdraw(2);
        x.withdraw(0);
        CHECK.due("1 and 3 alone: ways()", 2, x::ways);
        mainDue("1 and 3 alone", x, 0, 1);
    }

    private static void afterWithdrawals() {
        Cocite x = Papers.citing(0, 0, 3, 1, 4, 12, 1);
        x.withdraw(2);
        // Whole ways: 1, 4, 0 3 5, 0 6.
        CHECK.due("without 2: ways()", 4, x::ways);
        CHECK.due("without 2: count(4, 2)", Check.NO_SUCH_ELEMENT, () -> x.count(4, 2));
        CHECK.due("without 2: count(2, 0)", Check.NO_SUCH_ELEMENT, () -> x.count(2, 0));
        CHECK.due("without 2: count(5, 3)", 1, () -> x.count(5, 3));
        mainDue("without 2", x, 2, 0, 3, 5);
        for (int paper : new int[] {0, 1, 3, 4, 5, 6}) {
            x.withdraw(paper);
        }
        CHECK.due("without all: ways()", 0, x::ways);
        mainDue("without all", x, 0);
    }

    private static void fullLiterature() {
        // All ways from 0 to 11 over any of the ten between; a citing from k to k + 1 has 2 to
        // the power of 9, at the ends too.
        Cocite x = Papers.full();
        CHECK.due("full: ways()", 1024, x::ways);
        CHECK.due("full: count(11, 0)", 1, () -> x.count(11, 0));
        CHECK.due("full: count(1, 0)", 512, () -> x.count(1, 0));
        CHECK.due("full: count(6, 5)", 256, () -> x.count(6, 5));
        mainDue("full", x, 2 * 512 + 9 * 256, 0, 1, 2, 3, 4, 5, 6, 7, 8, 9, 10, 11);
    }
}
