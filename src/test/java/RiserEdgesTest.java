/** The edges of the terms of risers and heirs and of promises 22 to 24, a method for each sentence. */
public final class RiserEdgesTest {
    private static final Check CHECK = new Check();

    public static void main(String[] args) {
        papersOfThisYear();
        lessThoseOfTheYearBefore();
        thatAreThere();
        theFirstYear();
        theLastYear();
        yearsOfARise();
        yearsOfARiser();
        noSuchElementComesFirst();
        theGreatestRise();
        theLowestNumberOfSeveralRisers();
        noneIsThere();
        oneOfThoseThatCiteIt();
        theMostSharedReferences();
        theLowestNumberOfSeveralHeirs();
        noneCitesIt();
        papersThatAreNotThere();
        CHECK.end("RiserEdgesTest");
    }

    /** "how many papers of this year .. cite it": not of its own year, nor of any other. */
    private static void papersOfThisYear() {
        Cocite x = Papers.ofYears(10, 0, 30, 1, 30, 1, 30, 0);
        CHECK.due("its own year: rise(0, 10)", 0, () -> x.rise(0, 10));
        CHECK.due("far before: rise(0, 28)", 0, () -> x.rise(0, 28));
        CHECK.due("the year before: rise(0, 29)", 0, () -> x.rise(0, 29));
        CHECK.due("the year of two that cite it: rise(0, 30)", 2, () -> x.rise(0, 30));
        CHECK.due("the year behind: rise(0, 31)", -2, () -> x.rise(0, 31));
        CHECK.due("two years behind: rise(0, 32)", 0, () -> x.rise(0, 32));
        CHECK.due("not cited: rise(3, 30)", 0, () -> x.rise(3, 30));
        CHECK.due("not cited: rise(3, 31)", 0, () -> x.rise(3, 31));
        CHECK.due("cites, but is not cited: rise(1, 30)", 0, () -> x.rise(1, 30));
    }

    /** "less how many of the year before do". */
    private static void lessThoseOfTheYearBefore() {
        Cocite x = Papers.ofYears(0, 0, 4, 1, 5, 1, 5, 1, 6, 1, 8, 1);
        CHECK.due("1 less 0: rise(0, 4)", 1, () -> x.rise(0, 4));
        CHECK.due("2 less 1: rise(0, 5)", 1, () -> x.rise(0, 5));
        CHECK.due("1 less 2: rise(0, 6)", -1, () -> x.rise(0, 6));
        CHECK.due("0 less 1: rise(0, 7)", -1, () -> x.rise(0, 7));
        CHECK.due("1 less 0, not less two years before: rise(0, 8)", 1, () -> x.rise(0, 8));
        CHECK.due("0 less 1: rise(0, 9)", -1, () -> x.rise(0, 9));
        CHECK.due("0 less 0: rise(0, 10)", 0, () -> x.rise(0, 10));
        Cocite most = Papers.ofYears(0, 0, 1, 1, 1, 1, 1, 1, 1, 1, 1, 1, 1, 1, 1, 1, 1, 1, 1, 1, 1, 1, 1, 1);
        CHECK.due("the most: rise(0, 1)", 11, () -> most.rise(0, 1));
        CHECK.due("the least: rise(0, 2)", -11, () -> most.rise(0, 2));
    }

    /** "that are there": withdrawn ones cite no more, in the year and in the year before. */
    private static void thatAreThere() {
        Cocite x = Papers.ofYears(0, 0, 4, 1, 4, 1, 5, 1, 5, 1);
        CHECK.due("rise(0, 4)", 2, () -> x.rise(0, 4));
        CHECK.due("rise(0, 5)", 0, () -> x.rise(0, 5));
        x.withdraw(1);
        CHECK.due("one of 4 has gone: rise(0, 4)", 1, () -> x.rise(0, 4));
        CHECK.due("one of 4 has gone: rise(0, 5)", 1, () -> x.rise(0, 5));
        x.withdraw(4);
        CHECK.due("one of 5 has gone: rise(0, 5)", 0, () -> x.rise(0, 5));
        CHECK.due("one of 5 has gone: rise(0, 6)", -1, () -> x.rise(0, 6));
        x.withdraw(2);
        x.withdraw(3);
        CHECK.due("all that cited it have gone: rise(0, 4)", 0, () -> x.rise(0, 4));
        CHECK.due("all that cited it have gone: rise(0, 5)", 0, () -> x.rise(0, 5));
        x.come(5, 1);
        CHECK.due("one came: rise(0, 5)", 1, () -> x.rise(0, 5));
    }

    /** "year: 0 to 99": at 0, before which there is no paper. */
    private static void theFirstYear() {
        Cocite x = Papers.ofYears(0, 0, 0, 1, 0, 1, 1, 1);
        CHECK.due("rise(0, 0)", 2, () -> x.rise(0, 0));
        CHECK.due("rise(0, 1)", -1, () -> x.rise(0, 1));
        CHECK.due("rise(0, 2)", -1, () -> x.rise(0, 2));
        CHECK.due("riser(0)", 0, () -> x.riser(0));
        CHECK.due("riser(1)", 1, () -> x.riser(1));
    }

    /** "year: 0 to 99": at 99. */
    private static void theLastYear() {
        Cocite x = Papers.ofYears(98, 0, 98, 1, 98, 1, 99, 1, 99, 2);
        CHECK.due("rise(0, 97)", 0, () -> x.rise(0, 97));
        CHECK.due("rise(0, 98)", 2, () -> x.rise(0, 98));
        CHECK.due("rise(0, 99)", -1, () -> x.rise(0, 99));
        CHECK.due("rise(1, 99)", 1, () -> x.rise(1, 99));
        CHECK.due("riser(98)", 0, () -> x.riser(98));
        CHECK.due("riser(99)", 1, () -> x.riser(99));
    }

    /** "if year is out of range": of rise, whether or not a paper cites it. */
    private static void yearsOfARise() {
        Cocite x = Papers.ofYears(0, 0, 0, 1, 99, 1);
        for (int year : new int[] {Integer.MIN_VALUE, Integer.MIN_VALUE + 1, -100, -2, -1}) {
            CHECK.due("rise(0, " + year + ")", Check.ILLEGAL_ARGUMENT, () -> x.rise(0, year));
            CHECK.due("rise(2, " + year + ")", Check.ILLEGAL_ARGUMENT, () -> x.rise(2, year));
        }
        for (int year : new int[] {100, 101, 128, 256, Integer.MAX_VALUE}) {
            CHECK.due("rise(0, " + year + ")", Check.ILLEGAL_ARGUMENT, () -> x.rise(0, year));
            CHECK.due("rise(2, " + year + ")", Check.ILLEGAL_ARGUMENT, () -> x.rise(2, year));
        }
        CHECK.due("rise(0, 0)", 1, () -> x.rise(0, 0));
        CHECK.due("rise(2, 0)", 0, () -> x.rise(2, 0));
        CHECK.due("rise(0, 99)", 1, () -> x.rise(0, 99));
        CHECK.due("rise(2, 99)", 0, () -> x.rise(2, 99));
    }

    /** "if year is out of range": of riser, with and without papers. */
    private static void yearsOfARiser() {
        Cocite none = new Cocite();
        Cocite two = Papers.citing(0, 1);
        for (int year : new int[] {Integer.MIN_VALUE, -100, -2, -1, 100, 101, 128, 256, Integer.MAX_VALUE}) {
            CHECK.due("without papers: riser(" + year + ")", Check.ILLEGAL_ARGUMENT, () -> none.riser(year));
            CHECK.due("two papers: riser(" + year + ")", Check.ILLEGAL_ARGUMENT, () -> two.riser(year));
        }
        for (int year : new int[] {0, 1, 98, 99}) {
            CHECK.due("without papers: riser(" + year + ")", -1, () -> none.riser(year));
            CHECK.due("two papers: riser(" + year + ")", year == 1 ? 1 : 0, () -> two.riser(year));
        }
    }

    /** "the one that its throws clause names first": of rise NoSuchElementException. */
    private static void noSuchElementComesFirst() {
        Cocite x = NoPaper.threeOfFive();
        CHECK.due("rise(0, 100)", Check.ILLEGAL_ARGUMENT, () -> x.rise(0, 100));
        CHECK.due("rise(1, 100), withdrawn", Check.NO_SUCH_ELEMENT, () -> x.rise(1, 100));
        CHECK.due("rise(5, -1), not come", Check.NO_SUCH_ELEMENT, () -> x.rise(5, -1));
        CHECK.due("rise(-1, -1)", Check.NO_SUCH_ELEMENT, () -> x.rise(-1, -1));
        CHECK.due("rise(12, 100)", Check.NO_SUCH_ELEMENT, () -> x.rise(12, 100));
        CHECK.due("rise(1, 0), withdrawn", Check.NO_SUCH_ELEMENT, () -> x.rise(1, 0));
    }

    /** "Returns the paper with the greatest rise in a year". */
    private static void theGreatestRise() {
        CHECK.due("1 against 0: riser(3)", 1, () -> Papers.ofYears(0, 0, 0, 0, 3, 2).riser(3));
        CHECK.due("1 against 1: riser(3)", 0, () -> Papers.ofYears(0, 0, 0, 0, 3, 3).riser(3));
        CHECK.due("2 against 1: riser(3)", 1, () -> Papers.ofYears(0, 0, 0, 0, 3, 3, 3, 2).riser(3));
        CHECK.due("1 against 2: riser(3)", 0, () -> Papers.ofYears(0, 0, 0, 0, 3, 3, 3, 1).riser(3));
        // 1 is cited more often in 3, but as often in 2.
        CHECK.due("2 less 2 against 1: riser(3)", 0,
                () -> Papers.ofYears(0, 0, 0, 0, 2, 2, 2, 2, 3, 3, 3, 2).riser(3));
        CHECK.due("0 of one not cited against -1: riser(3)", 1, () -> Papers.ofYears(0, 0, 2, 1).riser(3));
        Cocite full = Papers.full();
        CHECK.due("full: riser(0)", 0, () -> full.riser(0));
        CHECK.due("full: riser(1), the last rises by 0", 11, () -> full.riser(1));
        full.withdraw(11);
        CHECK.due("full but 11: riser(1)", 10, () -> full.riser(1));
    }

    /** "of several the one with the lowest number": of risers. */
    private static void theLowestNumberOfSeveralRisers() {
        CHECK.due("all rise by 0: riser(9)", 0, () -> Papers.citing(0, 0, 0).riser(9));
        Cocite x = Papers.ofYears(0, 0, 0, 0, 0, 0, 3, 6);
        CHECK.due("1 and 2 rise by 1: riser(3)", 1, () -> x.riser(3));
        CHECK.due("0 and 3 rise by 0: riser(4)", 0, () -> x.riser(4));
        x.withdraw(0);
        CHECK.due("3 alone rises by 0: riser(4)", 3, () -> x.riser(4));
        CHECK.due("all rise by 0: riser(5)", 1, () -> x.riser(5));
        x.withdraw(1);
        CHECK.due("2 alone rises by 1: riser(3)", 2, () -> x.riser(3));
        CHECK.due("2 and 3 rise by 0: riser(5)", 2, () -> x.riser(5));
    }

    /** "NONE if no paper is there." */
    private static void noneIsThere() {
        Cocite x = new Cocite();
        CHECK.due("new: riser(5)", -1, () -> x.riser(5));
        x.come(5, 0);
        CHECK.due("one: riser(5)", 0, () -> x.riser(5));
        x.withdraw(0);
        CHECK.due("one withdrawn: riser(5)", -1, () -> x.riser(5));
        x.come(5, 0);
        CHECK.due("another one: riser(5)", 1, () -> x.riser(5));
        CHECK.due("another one: riser(0)", 1, () -> x.riser(0));
        Cocite full = Papers.full();
        for (int paper = 0; paper < 11; paper++) {
            full.withdraw(paper);
        }
        CHECK.due("the twelfth alone: riser(0)", 11, () -> full.riser(0));
        full.withdraw(11);
        CHECK.due("all withdrawn: riser(0)", -1, () -> full.riser(0));
    }

    /** "the one of those that cite it": no other, though it shares more; one that shares none, too. */
    private static void oneOfThoseThatCiteIt() {
        Cocite x = Papers.citing(0, 0, 3, 3, 4);
        CHECK.due("3 shares both but does not cite it: heir(2)", 4, () -> x.heir(2));
        CHECK.due("shares none, by refering to none: heir(0)", 2, () -> x.heir(0));
        CHECK.due("cited by none of those that share: heir(3)", -1, () -> x.heir(3));
        x.withdraw(4);
        CHECK.due("none is left that cites it: heir(2)", -1, () -> x.heir(2));
        Cocite full = Papers.full();
        CHECK.due("full: heir(10)", 11, () -> full.heir(10));
    }

    /** "with which it has the most shared references". */
    private static void theMostSharedReferences() {
        CHECK.due("0 and 1: heir(2)", 4, () -> Papers.citing(0, 0, 3, 4, 5).heir(2));
        CHECK.due("1 and 1: heir(2)", 3, () -> Papers.citing(0, 0, 3, 5, 6).heir(2));
        CHECK.due("1 and 2: heir(2)", 4, () -> Papers.citing(0, 0, 3, 5, 7).heir(2));
        CHECK.due("2 and 1: heir(2)", 3, () -> Papers.citing(0, 0, 3, 7, 5).heir(2));
        // 4 refers to more, but shares less with 2.
        CHECK.due("1 and 0, not by all references: heir(2)", 5,
                () -> Papers.citing(0, 0, 1, 0, 14, 5).heir(2));
        // 3 is joined to 2 by those that cite both, which do not count here.
        CHECK.due("not by joint citings: heir(2)", 4, () -> Papers.citing(0, 0, 3, 4, 5, 12, 12).heir(2));
        Cocite x = Papers.citing(0, 0, 3, 5, 7);
        x.withdraw(1);
        CHECK.due("1 and 1, as 1 has gone: heir(2)", 3, () -> x.heir(2));
    }

    /** "of several the one with the lowest number": of heirs. */
    private static void theLowestNumberOfSeveralHeirs() {
        CHECK.due("three that share none: heir(0)", 1, () -> Papers.citing(0, 1, 1, 1).heir(0));
        CHECK.due("three that share one: heir(1)", 3, () -> Papers.citing(0, 1, 1, 3, 3, 3).heir(1));
        Cocite x = Papers.citing(0, 1, 2, 3, 3);
        CHECK.due("2 shares none, 3 and 4 one: heir(1)", 3, () -> x.heir(1));
        x.withdraw(3);
        CHECK.due("3 has gone: heir(1)", 4, () -> x.heir(1));
        x.withdraw(4);
        CHECK.due("4 has gone: heir(1)", 2, () -> x.heir(1));
        Cocite full = Papers.full();
        CHECK.due("full: heir(0)", 1, () -> full.heir(0));
        CHECK.due("full: heir(5)", 6, () -> full.heir(5));
        full.withdraw(6);
        CHECK.due("full but 6: heir(5)", 7, () -> full.heir(5));
    }

    /** "NONE if none cites it." */
    private static void noneCitesIt() {
        CHECK.due("alone: heir(0)", -1, () -> Papers.citing(0).heir(0));
        Cocite x = Papers.citing(0, 1);
        CHECK.due("cites, but is not cited: heir(1)", -1, () -> x.heir(1));
        CHECK.due("cited by one: heir(0)", 1, () -> x.heir(0));
        x.withdraw(1);
        CHECK.due("not cited any more: heir(0)", -1, () -> x.heir(0));
        CHECK.due("full: heir(11)", -1, () -> Papers.full().heir(11));
    }

    /** "if the paper has not come, or was withdrawn": of rise and heir. */
    private static void papersThatAreNotThere() {
        NoPaper.refused(CHECK, "rise(?, 0)", (x, paper) -> x.rise(paper, 0));
        NoPaper.refused(CHECK, "rise(?, 99)", (x, paper) -> x.rise(paper, 99));
        NoPaper.refused(CHECK, "rise(?, 100)", (x, paper) -> x.rise(paper, 100));
        NoPaper.refused(CHECK, "heir(?)", Cocite::heir);
        Cocite x = NoPaper.threeOfFive();
        CHECK.due("there: rise(0, 0)", 2, () -> x.rise(0, 0));
        CHECK.due("there: rise(3, 0)", 0, () -> x.rise(3, 0));
        CHECK.due("there: heir(0)", 2, () -> x.heir(0));
        CHECK.due("there: heir(2)", 3, () -> x.heir(2));
        CHECK.due("there: heir(3)", -1, () -> x.heir(3));
    }
}
