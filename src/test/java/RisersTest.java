/** Promises 22 to 24. */
public final class RisersTest {
    private static final Check CHECK = new Check();

    public static void main(String[] args) {
        rises();
        wrongYears();
        risers();
        heirs();
        CHECK.end("RisersTest");
    }

    private static void rises() {
        // 0 is cited in 0 by 1, in 4 by 2 and 3, in 5 by 4.
        Cocite x = Papers.ofYears(0, 0, 0, 1, 4, 1, 4, 3, 5, 1, 99, 2);
        CHECK.due("rise(0, 0)", 1, () -> x.rise(0, 0));
        CHECK.due("rise(0, 1)", -1, () -> x.rise(0, 1));
        CHECK.due("rise(0, 2)", 0, () -> x.rise(0, 2));
        CHECK.due("rise(0, 3)", 0, () -> x.rise(0, 3));
        CHECK.due("rise(0, 4)", 2, () -> x.rise(0, 4));
        CHECK.due("rise(0, 5)", -1, () -> x.rise(0, 5));
        CHECK.due("rise(0, 6)", -1, () -> x.rise(0, 6));
        CHECK.due("rise(1, 99)", 1, () -> x.rise(1, 99));
        CHECK.due("rise(5, 99)", 0, () -> x.rise(5, 99));
        x.withdraw(2);
        CHECK.due("rise(0, 4) without 2", 1, () -> x.rise(0, 4));
        CHECK.due("rise(0, 5) without 2", 0, () -> x.rise(0, 5));
        CHECK.due("rise(2, 4) withdrawn", Check.NO_SUCH_ELEMENT, () -> x.rise(2, 4));
    }

    private static void wrongYears() {
        Cocite x = Papers.ofYears(3, 0, 3, 1);
        CHECK.due("rise(0, -1)", Check.ILLEGAL_ARGUMENT, () -> x.rise(0, -1));
        CHECK.due("rise(0, 100)", Check.ILLEGAL_ARGUMENT, () -> x.rise(0, 100));
        CHECK.due("rise(0, least int)", Check.ILLEGAL_ARGUMENT, () -> x.rise(0, Integer.MIN_VALUE));
        CHECK.due("rise(2, 100), both wrong", Check.NO_SUCH_ELEMENT, () -> x.rise(2, 100));
        CHECK.due("rise(-1, 3)", Check.NO_SUCH_ELEMENT, () -> x.rise(-1, 3));
        CHECK.due("rise(12, 3)", Check.NO_SUCH_ELEMENT, () -> x.rise(12, 3));
        CHECK.due("riser(-1)", Check.ILLEGAL_ARGUMENT, () -> x.riser(-1));
        CHECK.due("riser(100)", Check.ILLEGAL_ARGUMENT, () -> x.riser(100));
        Cocite none = new Cocite();
        CHECK.due("new: riser(100)", Check.ILLEGAL_ARGUMENT, () -> none.riser(100));
    }

    private static void risers() {
        Cocite x = new Cocite();
        CHECK.due("new: riser(0)", Cocite.NONE, () -> x.riser(0));
        CHECK.due("new: riser(99)", Cocite.NONE, () -> x.riser(99));
        // In 1: 0 is cited once, 1 twice. In 2: 0 twice, 1 none.
        Cocite y = Papers.ofYears(0, 0, 0, 0, 1, 3, 1, 2, 2, 1, 2, 1);
        CHECK.due("riser(0), all alike", 0, () -> y.riser(0));
        CHECK.due("riser(1)", 1, () -> y.riser(1));
        CHECK.due("riser(2)", 0, () -> y.riser(2));
        CHECK.due("riser(3)", 1, () -> y.riser(3));
        y.withdraw(3);
        CHECK.due("riser(1) without 3, 0 and 1 alike", 0, () -> y.riser(1));
        y.withdraw(0);
        CHECK.due("riser(1) without 0", 1, () -> y.riser(1));
        CHECK.due("riser(2) without 0, 1 falls", 2, () -> y.riser(2));
        // A single paper falls: its rise is below 0, and it is the riser all the same.
        Cocite z = Papers.ofYears(0, 0, 1, 1);
        CHECK.due("riser(2), 0 falls", 1, () -> z.riser(2));
        for (int paper : new int[] {1, 2, 4, 5}) {
            y.withdraw(paper);
        }
        CHECK.due("riser(1) without all", Cocite.NONE, () -> y.riser(1));
    }

    private static void heirs() {
        // 2 refers to 0 and 1. It is cited by 3 with none more, by 4 with 1, by 5 with both, by 6 with both.
        Cocite x = Papers.citing(0, 0, 3, 4, 6, 7, 7);
        CHECK.due("heir(2)", 5, () -> x.heir(2));
        CHECK.due("heir(0), none shared: the lowest", 2, () -> x.heir(0));
        CHECK.due("heir(6), not cited", Cocite.NONE, () -> x.heir(6));
        x.withdraw(5);
        CHECK.due("heir(2) without 5", 6, () -> x.heir(2));
        x.withdraw(6);
        CHECK.due("heir(2) without 6", 4, () -> x.heir(2));
        x.withdraw(1);
        CHECK.due("heir(2) without 1, 3 and 4 alike", 3, () -> x.heir(2));
        CHECK.due("heir(5) withdrawn", Check.NO_SUCH_ELEMENT, () -> x.heir(5));
        CHECK.due("heir(-1)", Check.NO_SUCH_ELEMENT, () -> x.heir(-1));
        CHECK.due("heir(7)", Check.NO_SUCH_ELEMENT, () -> x.heir(7));
        CHECK.due("heir(12)", Check.NO_SUCH_ELEMENT, () -> x.heir(12));
    }
}
