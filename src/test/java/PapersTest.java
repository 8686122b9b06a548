/** Promises 1 to 6. */
public final class PapersTest {
    private static final Check CHECK = new Check();

    public static void main(String[] args) {
        aNewObject();
        comeYears();
        comeReferences();
        comeOrderOfExceptions();
        withdrawing();
        referencesAndCiting();
        CHECK.end("PapersTest");
    }

    private static void aNewObject() {
        Cocite x = new Cocite();
        CHECK.due("NONE", -1, () -> Cocite.NONE);
        CHECK.due("new: papers()", 0, x::papers);
        CHECK.due("new: references(0)", Check.NO_SUCH_ELEMENT, () -> x.references(0));
        CHECK.due("new: come(0, 0)", 0, () -> x.come(0, 0));
        Cocite y = new Cocite();
        CHECK.due("another new one: papers()", 0, y::papers);
    }

    private static void comeYears() {
        Cocite x = new Cocite();
        CHECK.due("come(-1, 0)", Check.ILLEGAL_ARGUMENT, () -> x.come(-1, 0));
        CHECK.due("come(100, 0)", Check.ILLEGAL_ARGUMENT, () -> x.come(100, 0));
        CHECK.due("come(7, 0)", 0, () -> x.come(7, 0));
        CHECK.due("come(6, 0) behind 7", Check.ILLEGAL_ARGUMENT, () -> x.come(6, 0));
        CHECK.due("come(7, 0) behind 7", 1, () -> x.come(7, 0));
        CHECK.due("come(99, 0)", 2, () -> x.come(99, 0));
        CHECK.due("withdraw(2)", 0, () -> x.withdraw(2));
        CHECK.due("come(98, 0) behind a withdrawn 99", Check.ILLEGAL_ARGUMENT, () -> x.come(98, 0));
        CHECK.due("come(99, 0) again", 3, () -> x.come(99, 0));
        Cocite late = new Cocite();
        CHECK.due("a refused year leaves none: come(50, 1)", Check.ILLEGAL_ARGUMENT, () -> late.come(50, 1));
        CHECK.due("a refused year leaves none: come(0, 0)", 0, () -> late.come(0, 0));
    }

    private static void comeReferences() {
        Cocite x = Papers.citing(0, 1);
        CHECK.due("come(0, 4) to itself", Check.ILLEGAL_ARGUMENT, () -> x.come(0, 4));
        CHECK.due("come(0, 8) to a later one", Check.ILLEGAL_ARGUMENT, () -> x.come(0, 8));
        CHECK.due("come(0, 4096)", Check.ILLEGAL_ARGUMENT, () -> x.come(0, 4096));
        CHECK.due("come(0, -1)", Check.ILLEGAL_ARGUMENT, () -> x.come(0, -1));
        CHECK.due("come(0, least int)", Check.ILLEGAL_ARGUMENT, () -> x.come(0, Integer.MIN_VALUE));
        CHECK.due("come(0, 3)", 2, () -> x.come(0, 3));
        CHECK.due("withdraw(0)", 2, () -> x.withdraw(0));
        CHECK.due("come(0, 1) to a withdrawn one", Check.ILLEGAL_ARGUMENT, () -> x.come(0, 1));
        CHECK.due("come(0, 6)", 3, () -> x.come(0, 6));
        CHECK.due("references(3)", 6, () -> x.references(3));
    }

    private static void comeOrderOfExceptions() {
        Cocite x = Papers.full();
        CHECK.due("full: papers()", 12, x::papers);
        CHECK.due("full: references(11)", 2047, () -> x.references(11));
        CHECK.due("full: come(0, 4095)", Check.ILLEGAL_STATE, () -> x.come(0, 4095));
        CHECK.due("full: come(99, 0)", Check.ILLEGAL_STATE, () -> x.come(99, 0));
        CHECK.due("full: come(100, 0)", Check.ILLEGAL_ARGUMENT, () -> x.come(100, 0));
        CHECK.due("full: come(0, 4096)", Check.ILLEGAL_ARGUMENT, () -> x.come(0, 4096));
        CHECK.due("full: withdraw(11)", 0, () -> x.withdraw(11));
        CHECK.due("12 have come, 11 are there: come(0, 0)", Check.ILLEGAL_STATE, () -> x.come(0, 0));
        CHECK.due("12 have come, 11 are there: come(0, 2048)", Check.ILLEGAL_ARGUMENT, () -> x.come(0, 2048));
        CHECK.due("12 have come, 11 are there: papers()", 11, x::papers);
    }

    private static void withdrawing() {
        Cocite x = Papers.citing(0, 1, 3, 4);
        CHECK.due("withdraw(-1)", Check.NO_SUCH_ELEMENT, () -> x.withdraw(-1));
        CHECK.due("withdraw(4)", Check.NO_SUCH_ELEMENT, () -> x.withdraw(4));
        CHECK.due("withdraw(32)", Check.NO_SUCH_ELEMENT, () -> x.withdraw(32));
        CHECK.due("withdraw(0)", 2, () -> x.withdraw(0));
        CHECK.due("withdraw(0) again", Check.NO_SUCH_ELEMENT, () -> x.withdraw(0));
        CHECK.due("papers() without 0", 3, x::papers);
        CHECK.due("withdraw(3)", 0, () -> x.withdraw(3));
        CHECK.due("citing(2) without 3", 0, () -> x.citing(2));
        CHECK.due("withdraw(2)", 0, () -> x.withdraw(2));
        CHECK.due("withdraw(1)", 0, () -> x.withdraw(1));
        CHECK.due("papers() without all", 0, x::papers);
    }

    private static void referencesAndCiting() {
        Cocite x = Papers.citing(0, 1, 3, 7, 5);
        CHECK.due("references(0)", 0, () -> x.references(0));
        CHECK.due("references(3)", 7, () -> x.references(3));
        CHECK.due("references(4)", 5, () -> x.references(4));
        CHECK.due("citing(0)", 30, () -> x.citing(0));
        CHECK.due("citing(1)", 12, () -> x.citing(1));
        CHECK.due("citing(2)", 24, () -> x.citing(2));
        CHECK.due("citing(4)", 0, () -> x.citing(4));
        CHECK.due("references(-1)", Check.NO_SUCH_ELEMENT, () -> x.references(-1));
        CHECK.due("references(5)", Check.NO_SUCH_ELEMENT, () -> x.references(5));
        CHECK.due("references(12)", Check.NO_SUCH_ELEMENT, () -> x.references(12));
        CHECK.due("citing(-32)", Check.NO_SUCH_ELEMENT, () -> x.citing(-32));
        CHECK.due("citing(greatest int)", Check.NO_SUCH_ELEMENT, () -> x.citing(Integer.MAX_VALUE));
        CHECK.due("withdraw(2)", 2, () -> x.withdraw(2));
        CHECK.due("references(2) withdrawn", Check.NO_SUCH_ELEMENT, () -> x.references(2));
        CHECK.due("citing(2) withdrawn", Check.NO_SUCH_ELEMENT, () -> x.citing(2));
        CHECK.due("references(3) without 2", 3, () -> x.references(3));
        CHECK.due("references(4) without 2", 1, () -> x.references(4));
        CHECK.due("citing(0) without 2", 26, () -> x.citing(0));
        CHECK.due("citing(1) without 2", 8, () -> x.citing(1));
    }
}
