/** The edges of the terms of papers and of promises 1 to 6, a method for each sentence. */
public final class PaperEdgesTest {
    private static final Check CHECK = new Check();

    public static void main(String[] args) {
        beginsWithoutPapers();
        noneIsMinusOne();
        atMostTwelveCome();
        withdrawnOnesHaveComeToo();
        numberedInTheirOrder();
        yearsFromZero();
        yearsUpToNinetyNine();
        notEarlierThanTheOneBefore();
        withdrawnOrNot();
        referencesToEarlierOnes();
        referencesBeyondTheTwelfth();
        referencesToThoseThatAreThere();
        eachReferenceOnce();
        illegalArgumentComesFirst();
        whatItReferredToIsNotCitedAnyMore();
        thoseThatCiteItLoseThatReference();
        howManyLoseAReference();
        howManyAreThere();
        referencesOfAPaper();
        papersThatCiteAPaper();
        papersThatAreNotThere();
        upToTheLastCall();
        objectsOfTheirOwn();
        CHECK.end("PaperEdgesTest");
    }

    /** "Begins without papers." */
    private static void beginsWithoutPapers() {
        Cocite x = new Cocite();
        CHECK.due("new: papers()", 0, x::papers);
        CHECK.due("new: total()", 0, x::total);
        CHECK.due("new: totalAnew()", 0, x::totalAnew);
        CHECK.due("new: fields()", 0, x::fields);
        CHECK.due("new: ways()", 0, x::ways);
        CHECK.due("new: mainLength()", 0, x::mainLength);
        CHECK.due("new: mainSum()", 0, x::mainSum);
        CHECK.due("new: mainAt(0)", Check.INDEX_OUT_OF_BOUNDS, () -> x.mainAt(0));
        CHECK.due("new: riser(0)", -1, () -> x.riser(0));
        CHECK.due("new: come(0, 1)", Check.ILLEGAL_ARGUMENT, () -> x.come(0, 1));
        CHECK.due("new: come(0, 0)", 0, () -> x.come(0, 0));
        CHECK.due("one: papers()", 1, x::papers);
    }

    /** "NONE = -1: There is none." */
    private static void noneIsMinusOne() {
        Cocite x = Papers.citing(0);
        CHECK.due("NONE", -1, () -> Cocite.NONE);
        CHECK.due("heir(0) is NONE", Cocite.NONE, () -> x.heir(0));
    }

    /** "At most 12 come"; "Throws IllegalStateException if 12 have come". */
    private static void atMostTwelveCome() {
        Cocite x = Papers.citing(0, 0, 0, 0, 0, 0, 0, 0, 0, 0);
        CHECK.due("come, the eleventh", 10, () -> x.come(0, 0));
        CHECK.due("papers() of eleven", 11, x::papers);
        CHECK.due("come, the twelfth", 11, () -> x.come(0, 0));
        CHECK.due("papers() of twelve", 12, x::papers);
        CHECK.due("come, the thirteenth", Check.ILLEGAL_STATE, () -> x.come(0, 0));
        CHECK.due("come(0, 4095), the thirteenth", Check.ILLEGAL_STATE, () -> x.come(0, 4095));
        CHECK.due("come(99, 1), the thirteenth", Check.ILLEGAL_STATE, () -> x.come(99, 1));
        CHECK.due("papers() as before", 12, x::papers);
    }

    /** "if 12 have come": to have come is not to be there. */
    private static void withdrawnOnesHaveComeToo() {
        Cocite x = new Cocite();
        for (int paper = 0; paper < 12; paper++) {
            int due = paper;
            CHECK.due("come behind withdrawn ones", due, () -> x.come(0, 0));
            CHECK.due("withdraw(" + paper + ")", 0, () -> x.withdraw(due));
        }
        CHECK.due("papers(), twelve withdrawn", 0, x::papers);
        CHECK.due("come, twelve withdrawn", Check.ILLEGAL_STATE, () -> x.come(0, 0));
        CHECK.due("come(99, 0), twelve withdrawn", Check.ILLEGAL_STATE, () -> x.come(99, 0));
        Cocite eleven = Papers.full();
        eleven.withdraw(0);
        CHECK.due("come, eleven of twelve there", Check.ILLEGAL_STATE, () -> eleven.come(0, 0));
    }

    /** "numbered from 0 in their order"; "Returns its number." */
    private static void numberedInTheirOrder() {
        Cocite x = new Cocite();
        CHECK.due("the first", 0, () -> x.come(5, 0));
        CHECK.due("the second", 1, () -> x.come(5, 0));
        x.withdraw(1);
        CHECK.due("the third, the second withdrawn", 2, () -> x.come(5, 0));
        x.withdraw(0);
        x.withdraw(2);
        CHECK.due("the fourth, all withdrawn", 3, () -> x.come(99, 0));
        CHECK.due("the refused one", Check.ILLEGAL_ARGUMENT, () -> x.come(98, 0));
        CHECK.due("the fifth, behind a refused one", 4, () -> x.come(99, 0));
    }

    /** "A paper has a year, 0 to 99": at 0. */
    private static void yearsFromZero() {
        CHECK.due("come(least int, 0)", Check.ILLEGAL_ARGUMENT, () -> new Cocite().come(Integer.MIN_VALUE, 0));
        CHECK.due("come(-100, 0)", Check.ILLEGAL_ARGUMENT, () -> new Cocite().come(-100, 0));
        CHECK.due("come(-1, 0)", Check.ILLEGAL_ARGUMENT, () -> new Cocite().come(-1, 0));
        CHECK.due("come(0, 0)", 0, () -> new Cocite().come(0, 0));
        CHECK.due("come(1, 0)", 0, () -> new Cocite().come(1, 0));
        Cocite x = Papers.citing(0);
        CHECK.due("come(-1, 0) behind 0", Check.ILLEGAL_ARGUMENT, () -> x.come(-1, 0));
        CHECK.due("come(0, 0) behind 0", 1, () -> x.come(0, 0));
        CHECK.due("come(1, 0) behind 0", 2, () -> x.come(1, 0));
    }

    /** "year: .., up to 99". */
    private static void yearsUpToNinetyNine() {
        CHECK.due("come(98, 0)", 0, () -> new Cocite().come(98, 0));
        CHECK.due("come(99, 0)", 0, () -> new Cocite().come(99, 0));
        CHECK.due("come(100, 0)", Check.ILLEGAL_ARGUMENT, () -> new Cocite().come(100, 0));
        CHECK.due("come(101, 0)", Check.ILLEGAL_ARGUMENT, () -> new Cocite().come(101, 0));
        CHECK.due("come(greatest int, 0)", Check.ILLEGAL_ARGUMENT, () -> new Cocite().come(Integer.MAX_VALUE, 0));
        Cocite x = Papers.ofYears(99, 0);
        CHECK.due("come(98, 0) behind 99", Check.ILLEGAL_ARGUMENT, () -> x.come(98, 0));
        CHECK.due("come(100, 0) behind 99", Check.ILLEGAL_ARGUMENT, () -> x.come(100, 0));
        CHECK.due("come(99, 0) behind 99", 1, () -> x.come(99, 0));
    }

    /** "not earlier than that of the paper that came before it". */
    private static void notEarlierThanTheOneBefore() {
        CHECK.due("come(49, 0) behind 50", Check.ILLEGAL_ARGUMENT, () -> Papers.ofYears(50, 0).come(49, 0));
        CHECK.due("come(50, 0) behind 50", 1, () -> Papers.ofYears(50, 0).come(50, 0));
        CHECK.due("come(51, 0) behind 50", 1, () -> Papers.ofYears(50, 0).come(51, 0));
        Cocite x = Papers.ofYears(10, 0, 20, 0);
        CHECK.due("come(15, 0) behind 10 and 20", Check.ILLEGAL_ARGUMENT, () -> x.come(15, 0));
        CHECK.due("come(19, 0) behind 10 and 20", Check.ILLEGAL_ARGUMENT, () -> x.come(19, 0));
        CHECK.due("come(20, 0) behind 10 and 20", 2, () -> x.come(20, 0));
        Cocite y = Papers.ofYears(10, 0);
        CHECK.due("come(20, 2), refused", Check.ILLEGAL_ARGUMENT, () -> y.come(20, 2));
        CHECK.due("come(10, 0) behind 10 and a refused 20", 1, () -> y.come(10, 0));
    }

    /** "the paper that came before it (withdrawn or not)". */
    private static void withdrawnOrNot() {
        Cocite x = Papers.ofYears(10, 0, 20, 0);
        x.withdraw(1);
        CHECK.due("come(10, 0) behind a withdrawn 20", Check.ILLEGAL_ARGUMENT, () -> x.come(10, 0));
        CHECK.due("come(19, 0) behind a withdrawn 20", Check.ILLEGAL_ARGUMENT, () -> x.come(19, 0));
        CHECK.due("come(20, 0) behind a withdrawn 20", 2, () -> x.come(20, 0));
        Cocite y = Papers.ofYears(7, 0);
        y.withdraw(0);
        CHECK.due("come(6, 0), all withdrawn", Check.ILLEGAL_ARGUMENT, () -> y.come(6, 0));
        CHECK.due("come(7, 0), all withdrawn", 1, () -> y.come(7, 0));
        y.withdraw(1);
        CHECK.due("come(8, 0), all withdrawn", 2, () -> y.come(8, 0));
    }

    /** "references to earlier papers": not to itself, and to none that comes later. */
    private static void referencesToEarlierOnes() {
        CHECK.due("the first: come(0, 1), itself", Check.ILLEGAL_ARGUMENT, () -> new Cocite().come(0, 1));
        CHECK.due("the first: come(0, 0)", 0, () -> new Cocite().come(0, 0));
        Cocite x = Papers.citing(0, 0, 0);
        CHECK.due("the fourth: come(0, 8), itself", Check.ILLEGAL_ARGUMENT, () -> x.come(0, 8));
        CHECK.due("the fourth: come(0, 15), itself with others", Check.ILLEGAL_ARGUMENT, () -> x.come(0, 15));
        CHECK.due("the fourth: come(0, 16), the next one", Check.ILLEGAL_ARGUMENT, () -> x.come(0, 16));
        CHECK.due("the fourth: come(0, 2048), the last one", Check.ILLEGAL_ARGUMENT, () -> x.come(0, 2048));
        CHECK.due("the fourth: come(0, 4), the one before", 3, () -> x.come(0, 4));
        CHECK.due("the fifth: come(0, 1), the first one", 4, () -> x.come(0, 1));
        CHECK.due("the sixth: come(0, 0), none", 5, () -> x.come(0, 0));
        CHECK.due("the seventh: come(0, 63), all", 6, () -> x.come(0, 63));
        CHECK.due("references(6)", 63, () -> x.references(6));
        Cocite eleven = Papers.citing(0, 0, 0, 0, 0, 0, 0, 0, 0, 0, 0);
        CHECK.due("the twelfth: come(0, 2048), itself", Check.ILLEGAL_ARGUMENT, () -> eleven.come(0, 2048));
        CHECK.due("the twelfth: come(0, 4095), all and itself", Check.ILLEGAL_ARGUMENT, () -> eleven.come(0, 4095));
        CHECK.due("the twelfth: come(0, 2047), all", 11, () -> eleven.come(0, 2047));
    }

    /** "references has a paper that is not there": none of the powers from 12 on is a paper's. */
    private static void referencesBeyondTheTwelfth() {
        Cocite x = Papers.citing(0, 0, 0, 0, 0, 0, 0, 0, 0, 0, 0);
        for (int power = 12; power < 32; power++) {
            int beyond = 1 << power;
            CHECK.due("come(0, 2 to the power of " + power + ")", Check.ILLEGAL_ARGUMENT, () -> x.come(0, beyond));
            CHECK.due("the same with all that are there", Check.ILLEGAL_ARGUMENT, () -> x.come(0, beyond | 2047));
        }
        CHECK.due("come(0, -1)", Check.ILLEGAL_ARGUMENT, () -> x.come(0, -1));
        CHECK.due("come(0, -2048)", Check.ILLEGAL_ARGUMENT, () -> x.come(0, -2048));
        CHECK.due("come(0, greatest int)", Check.ILLEGAL_ARGUMENT, () -> x.come(0, Integer.MAX_VALUE));
        CHECK.due("come(0, 1024)", 11, () -> x.come(0, 1024));
    }

    /** "references to earlier papers that are there". */
    private static void referencesToThoseThatAreThere() {
        Cocite x = Papers.citing(0, 0, 0);
        x.withdraw(1);
        CHECK.due("come(0, 2), withdrawn", Check.ILLEGAL_ARGUMENT, () -> x.come(0, 2));
        CHECK.due("come(0, 7), withdrawn among others", Check.ILLEGAL_ARGUMENT, () -> x.come(0, 7));
        CHECK.due("come(0, 5), all that are there", 3, () -> x.come(0, 5));
        x.withdraw(0);
        x.withdraw(2);
        x.withdraw(3);
        for (int power = 0; power < 12; power++) {
            int gone = 1 << power;
            CHECK.due("come(0, " + gone + "), none is there", Check.ILLEGAL_ARGUMENT, () -> x.come(0, gone));
        }
        CHECK.due("come(0, 0), none is there", 4, () -> x.come(0, 0));
    }

    /** "each once": a reference counts one, however many refer to the same. */
    private static void eachReferenceOnce() {
        Cocite x = Papers.citing(0, 1, 1);
        CHECK.due("references(2)", 1, () -> x.references(2));
        CHECK.due("shared(2, 2)", 1, () -> x.shared(2, 2));
        CHECK.due("joint(0, 0)", 2, () -> x.joint(0, 0));
    }

    /** "the one that its throws clause names first": of come IllegalArgumentException. */
    private static void illegalArgumentComesFirst() {
        Cocite x = Papers.full();
        CHECK.due("full: come(0, 0)", Check.ILLEGAL_STATE, () -> x.come(0, 0));
        CHECK.due("full: come(99, 4095)", Check.ILLEGAL_STATE, () -> x.come(99, 4095));
        CHECK.due("full: come(-1, 0)", Check.ILLEGAL_ARGUMENT, () -> x.come(-1, 0));
        CHECK.due("full: come(100, 0)", Check.ILLEGAL_ARGUMENT, () -> x.come(100, 0));
        CHECK.due("full: come(0, 4096)", Check.ILLEGAL_ARGUMENT, () -> x.come(0, 4096));
        CHECK.due("full: come(100, 4096)", Check.ILLEGAL_ARGUMENT, () -> x.come(100, 4096));
        x.withdraw(4);
        CHECK.due("full but 4: come(0, 16)", Check.ILLEGAL_ARGUMENT, () -> x.come(0, 16));
        CHECK.due("full but 4: come(0, 15)", Check.ILLEGAL_STATE, () -> x.come(0, 15));
        Cocite late = Papers.ofYears(0, 0, 0, 0, 0, 0, 0, 0, 0, 0, 0, 0, 0, 0, 0, 0, 0, 0, 0, 0, 0, 0, 60, 0);
        CHECK.due("full of 60: come(59, 0)", Check.ILLEGAL_ARGUMENT, () -> late.come(59, 0));
        CHECK.due("full of 60: come(60, 0)", Check.ILLEGAL_STATE, () -> late.come(60, 0));
    }

    /** "then what it referred to is not cited by it any more". */
    private static void whatItReferredToIsNotCitedAnyMore() {
        Cocite x = Papers.citing(0, 0, 3, 3);
        CHECK.due("citing(0)", 12, () -> x.citing(0));
        x.withdraw(2);
        CHECK.due("citing(0) without 2", 8, () -> x.citing(0));
        CHECK.due("citing(1) without 2", 8, () -> x.citing(1));
        CHECK.due("joint(0, 1) without 2", 1, () -> x.joint(0, 1));
        CHECK.due("joint(0, 0) without 2", 1, () -> x.joint(0, 0));
        x.withdraw(3);
        CHECK.due("citing(0) without 3", 0, () -> x.citing(0));
        CHECK.due("joint(0, 1) without 3", 0, () -> x.joint(0, 1));
        CHECK.due("joint(1, 1) without 3", 0, () -> x.joint(1, 1));
        CHECK.due("heir(0) without 3", -1, () -> x.heir(0));
        CHECK.due("ways() without 3", 2, x::ways);
    }

    /** "and those that cite it lose that reference": that one alone. */
    private static void thoseThatCiteItLoseThatReference() {
        Cocite x = Papers.citing(0, 0, 3, 1, 12);
        x.withdraw(0);
        CHECK.due("references(2) without 0", 2, () -> x.references(2));
        CHECK.due("references(3) without 0", 0, () -> x.references(3));
        CHECK.due("references(4) without 0", 12, () -> x.references(4));
        CHECK.due("shared(2, 2) without 0", 1, () -> x.shared(2, 2));
        CHECK.due("shared(2, 3) without 0", 0, () -> x.shared(2, 3));
        CHECK.due("ways() without 0: 1 2 4 and 3 4", 2, x::ways);
    }

    /** "Returns how many papers lose a reference." */
    private static void howManyLoseAReference() {
        CHECK.due("withdraw(0), alone", 0, () -> Papers.citing(0).withdraw(0));
        CHECK.due("withdraw(1), which cites alone", 0, () -> Papers.citing(0, 1).withdraw(1));
        CHECK.due("withdraw(0), cited by one", 1, () -> Papers.citing(0, 1, 2).withdraw(0));
        CHECK.due("withdraw(1), cited by one and citing one", 1, () -> Papers.citing(0, 1, 2).withdraw(1));
        CHECK.due("withdraw(0), cited by two", 2, () -> Papers.citing(0, 1, 1).withdraw(0));
        CHECK.due("full: withdraw(11)", 0, () -> Papers.full().withdraw(11));
        CHECK.due("full: withdraw(10)", 1, () -> Papers.full().withdraw(10));
        CHECK.due("full: withdraw(0)", 11, () -> Papers.full().withdraw(0));
        Cocite x = Papers.full();
        x.withdraw(5);
        CHECK.due("full but 5: withdraw(0)", 10, () -> x.withdraw(0));
        CHECK.due("full but 5 and 0: withdraw(11)", 0, () -> x.withdraw(11));
        CHECK.due("full but 5, 0 and 11: withdraw(1)", 8, () -> x.withdraw(1));
    }

    /** "Returns how many papers are there." */
    private static void howManyAreThere() {
        Cocite x = new Cocite();
        for (int paper = 0; paper < 12; paper++) {
            x.come(0, 0);
            CHECK.due("papers()", paper + 1, x::papers);
        }
        for (int paper = 0; paper < 12; paper++) {
            x.withdraw(paper);
            CHECK.due("papers() without 0 to " + paper, 11 - paper, x::papers);
        }
    }

    /** "Returns the references of a paper, as the sum of 2 to the power of their numbers." */
    private static void referencesOfAPaper() {
        Cocite x = Papers.full();
        CHECK.due("full: references(0)", 0, () -> x.references(0));
        CHECK.due("full: references(1)", 1, () -> x.references(1));
        CHECK.due("full: references(2)", 3, () -> x.references(2));
        CHECK.due("full: references(11)", 2047, () -> x.references(11));
        x.withdraw(10);
        CHECK.due("full but 10: references(11)", 1023, () -> x.references(11));
        x.withdraw(0);
        CHECK.due("full but 0: references(1)", 0, () -> x.references(1));
        CHECK.due("full but 0: references(11)", 1022, () -> x.references(11));
    }

    /** "Returns the papers that cite a paper, as the sum of 2 to the power of their numbers." */
    private static void papersThatCiteAPaper() {
        Cocite x = Papers.full();
        CHECK.due("full: citing(11)", 0, () -> x.citing(11));
        CHECK.due("full: citing(10)", 2048, () -> x.citing(10));
        CHECK.due("full: citing(0)", 4094, () -> x.citing(0));
        x.withdraw(1);
        CHECK.due("full but 1: citing(0)", 4092, () -> x.citing(0));
        x.withdraw(11);
        CHECK.due("full but 1 and 11: citing(0)", 2044, () -> x.citing(0));
        CHECK.due("full but 1 and 11: citing(10)", 0, () -> x.citing(10));
    }

    /** "if the paper has not come, or was withdrawn": of withdraw, references and citing. */
    private static void papersThatAreNotThere() {
        NoPaper.refused(CHECK, "withdraw(?)", Cocite::withdraw);
        NoPaper.refused(CHECK, "references(?)", Cocite::references);
        NoPaper.refused(CHECK, "citing(?)", Cocite::citing);
        Cocite x = NoPaper.threeOfFive();
        CHECK.due("there: references(0)", 0, () -> x.references(0));
        CHECK.due("there: references(3)", 5, () -> x.references(3));
        CHECK.due("there: citing(0)", 12, () -> x.citing(0));
        CHECK.due("there: citing(3)", 0, () -> x.citing(3));
        CHECK.due("there: withdraw(3)", 0, () -> x.withdraw(3));
        CHECK.due("there: withdraw(0)", 1, () -> x.withdraw(0));
        CHECK.due("there: withdraw(2)", 0, () -> x.withdraw(2));
        CHECK.due("withdrawn once: withdraw(2)", Check.NO_SUCH_ELEMENT, () -> x.withdraw(2));
    }

    /** "An object is used for at most 512 calls": the last of them answers as the first. */
    private static void upToTheLastCall() {
        Cocite x = new Cocite();
        for (int call = 0; call < 250; call++) {
            CHECK.due("one of many refused ones", Check.ILLEGAL_ARGUMENT, () -> x.come(99, 1));
            CHECK.due("one of many questions", 0, x::papers);
        }
        for (int paper = 0; paper < 12; paper++) {
            int due = paper;
            CHECK.due("come, one of the last twelve of 512 calls", due, () -> x.come(0, (1 << due) - 1));
        }
    }

    /** What one object is told, another does not know. */
    private static void objectsOfTheirOwn() {
        Cocite x = Papers.full();
        Cocite y = Papers.ofYears(3, 0, 3, 1);
        x.withdraw(0);
        CHECK.due("the other: papers()", 2, y::papers);
        CHECK.due("the other: citing(0)", 2, () -> y.citing(0));
        CHECK.due("the other: come(3, 3)", 2, () -> y.come(3, 3));
        CHECK.due("the one: papers()", 11, x::papers);
        CHECK.due("the one: references(2)", 2, () -> x.references(2));
    }
}
