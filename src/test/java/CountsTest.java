/** Promises 7 to 12. */
public final class CountsTest {
    private static final Check CHECK = new Check();

    public static void main(String[] args) {
        sharedAndJoint();
        afterWithdrawals();
        totals();
        likeness();
        nobodyThere();
        CHECK.end("CountsTest");
    }

    private static void sharedAndJoint() {
        Cocite x = Papers.citing(0, 0, 3, 3, 7, 9);
        CHECK.due("shared(2, 3)", 2, () -> x.shared(2, 3));
        CHECK.due("shared(3, 2)", 2, () -> x.shared(3, 2));
        CHECK.due("shared(4, 5)", 1, () -> x.shared(4, 5));
        CHECK.due("shared(0, 5)", 0, () -> x.shared(0, 5));
        CHECK.due("shared(4, 4)", 3, () -> x.shared(4, 4));
        CHECK.due("shared(0, 0)", 0, () -> x.shared(0, 0));
        CHECK.due("joint(0, 1)", 3, () -> x.joint(0, 1));
        CHECK.due("joint(1, 0)", 3, () -> x.joint(1, 0));
        CHECK.due("joint(0, 3)", 1, () -> x.joint(0, 3));
        CHECK.due("joint(2, 3)", 0, () -> x.joint(2, 3));
        CHECK.due("joint(0, 0)", 4, () -> x.joint(0, 0));
        CHECK.due("joint(5, 5)", 0, () -> x.joint(5, 5));
    }

    private static void afterWithdrawals() {
        Cocite x = Papers.citing(0, 0, 3, 3, 7, 9);
        x.withdraw(0);
        CHECK.due("shared(2, 3) without 0", 1, () -> x.shared(2, 3));
        CHECK.due("shared(4, 5) without 0", 0, () -> x.shared(4, 5));
        CHECK.due("shared(5, 5) without 0", 1, () -> x.shared(5, 5));
        CHECK.due("shared(0, 2) withdrawn", Check.NO_SUCH_ELEMENT, () -> x.shared(0, 2));
        CHECK.due("joint(1, 0) withdrawn", Check.NO_SUCH_ELEMENT, () -> x.joint(1, 0));
        x.withdraw(4);
        CHECK.due("joint(1, 2) without 4", 0, () -> x.joint(1, 2));
        CHECK.due("joint(1, 1) without 4", 2, () -> x.joint(1, 1));
        CHECK.due("shared(2, 3) without 4", 1, () -> x.shared(2, 3));
    }

    private static void totals() {
        // Shared: 2 with 3 has 2. Joint: 0 with 1 has 2.
        Cocite x = Papers.citing(0, 0, 3, 3);
        CHECK.due("total()", 4, x::total);
        CHECK.due("totalAnew()", 4, x::totalAnew);
        x.withdraw(1);
        CHECK.due("total() without 1", 1, x::total);
        CHECK.due("totalAnew() without 1", 1, x::totalAnew);
        x.withdraw(3);
        CHECK.due("total() without 3", 0, x::total);
        CHECK.due("totalAnew() without 3", 0, x::totalAnew);
        // Each three of the twelve make one shared reference and one joint citing: twice 220.
        Cocite full = Papers.full();
        CHECK.due("full: total()", 440, full::total);
        CHECK.due("full: totalAnew()", 440, full::totalAnew);
    }

    private static void likeness() {
        Cocite x = Papers.citing(0, 0, 3, 7, 5, 7, 0);
        due("like(2, 3), 4 / 6", x, 2, 3, 2, 3);
        due("like(3, 2), 4 / 6", x, 3, 2, 2, 3);
        due("like(3, 5), 9 / 9", x, 3, 5, 1, 1);
        due("like(2, 4), 1 / 4", x, 2, 4, 1, 4);
        due("like(3, 3)", x, 3, 3, 1, 1);
        due("like(0, 0)", x, 0, 0, 0, 1);
        due("like(0, 3)", x, 0, 3, 0, 1);
        due("like(3, 6)", x, 3, 6, 0, 1);
        // 4 refers to 0 and 2, 7 to 1 and 3: both have some, but none is shared.
        x.come(0, 10);
        due("like(4, 7), 0 / 4", x, 4, 7, 0, 1);
        Cocite full = Papers.full();
        due("full: like(11, 10), 100 / 110", full, 11, 10, 10, 11);
        due("full: like(11, 11), 121 / 121", full, 11, 11, 1, 1);
        due("full: like(1, 11), 1 / 11", full, 1, 11, 1, 11);
    }

    private static void due(String call, Cocite x, int paper, int other, int numerator, int denominator) {
        CHECK.due(call + " numerator", numerator, () -> x.likenessNumerator(paper, other));
        CHECK.due(call + " denominator", denominator, () -> x.likenessDenominator(paper, other));
    }

    private static void nobodyThere() {
        Cocite x = Papers.citing(0, 1);
        int[][] pairs = {{0, 2}, {2, 0}, {-1, 0}, {0, -1}, {12, 1}, {1, 32}, {2, 2}};
        for (int[] pair : pairs) {
            int a = pair[0];
            int b = pair[1];
            String of = "(" + a + ", " + b + ")";
            CHECK.due("shared" + of, Check.NO_SUCH_ELEMENT, () -> x.shared(a, b));
            CHECK.due("joint" + of, Check.NO_SUCH_ELEMENT, () -> x.joint(a, b));
            CHECK.due("likenessNumerator" + of, Check.NO_SUCH_ELEMENT, () -> x.likenessNumerator(a, b));
            CHECK.due("likenessDenominator" + of, Check.NO_SUCH_ELEMENT, () -> x.likenessDenominator(a, b));
        }
        Cocite none = new Cocite();
        CHECK.due("new: total()", 0, none::total);
        CHECK.due("new: totalAnew()", 0, none::totalAnew);
    }
}
