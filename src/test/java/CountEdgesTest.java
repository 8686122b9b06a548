/** The edges of the terms of counts and of promises 7 to 12, a method for each sentence. */
public final class CountEdgesTest {
    private static final Check CHECK = new Check();

    public static void main(String[] args) {
        papersBothReferTo();
        papersThatReferToBoth();
        sharedOfAPaperAndItself();
        jointOfAPaperAndItself();
        keptThroughChanges();
        weightIsBothTogether();
        allTwoUnlikePapers();
        foundFromNothing();
        keptDownToNothing();
        likenessOfEachTwo();
        nothingShared();
        lowestTerms();
        noReferences();
        denominatorAboveZero();
        allSmallLikenesses();
        papersThatAreNotThere();
        CHECK.end("CountEdgesTest");
    }

    /** "The shared references of two papers are how many papers both refer to". */
    private static void papersBothReferTo() {
        Cocite x = Papers.citing(0, 0, 1, 2, 3, 3);
        CHECK.due("neither refers to any: shared(0, 1)", 0, () -> x.shared(0, 1));
        CHECK.due("one refers to none: shared(0, 4)", 0, () -> x.shared(0, 4));
        CHECK.due("to unlike ones: shared(2, 3)", 0, () -> x.shared(2, 3));
        CHECK.due("to one of two: shared(2, 4)", 1, () -> x.shared(2, 4));
        CHECK.due("to both: shared(4, 5)", 2, () -> x.shared(4, 5));
        CHECK.due("the other way round: shared(5, 4)", 2, () -> x.shared(5, 4));
        Cocite line = Papers.citing(0, 1, 2);
        CHECK.due("one of them is no shared one: shared(0, 1)", 0, () -> line.shared(0, 1));
        CHECK.due("one of them is no shared one: shared(1, 2)", 0, () -> line.shared(1, 2));
        CHECK.due("the most: shared(10, 11)", 10, () -> Papers.full().shared(10, 11));
        CHECK.due("the least of the full: shared(0, 11)", 0, () -> Papers.full().shared(0, 11));
        CHECK.due("of the full: shared(1, 11)", 1, () -> Papers.full().shared(1, 11));
    }

    /** "their joint citings are how many papers refer to both". */
    private static void papersThatReferToBoth() {
        Cocite x = Papers.citing(0, 0, 0, 1, 3, 7);
        CHECK.due("both by two: joint(0, 1)", 2, () -> x.joint(0, 1));
        CHECK.due("the other way round: joint(1, 0)", 2, () -> x.joint(1, 0));
        CHECK.due("both by one: joint(1, 2)", 1, () -> x.joint(1, 2));
        CHECK.due("one cited by none: joint(0, 4)", 0, () -> x.joint(0, 4));
        CHECK.due("both cited by none: joint(4, 5)", 0, () -> x.joint(4, 5));
        Cocite line = Papers.citing(0, 1, 2);
        CHECK.due("the one that cites is no third: joint(0, 1)", 0, () -> line.joint(0, 1));
        Cocite apart = Papers.citing(0, 0, 1, 2);
        CHECK.due("cited by unlike ones: joint(0, 1)", 0, () -> apart.joint(0, 1));
        CHECK.due("the most: joint(0, 1)", 10, () -> Papers.full().joint(0, 1));
        CHECK.due("of the full: joint(0, 10)", 1, () -> Papers.full().joint(0, 10));
        CHECK.due("of the full: joint(0, 11)", 0, () -> Papers.full().joint(0, 11));
    }

    /** "for a paper and itself all its references". */
    private static void sharedOfAPaperAndItself() {
        Cocite x = Papers.full();
        for (int paper = 0; paper < 12; paper++) {
            int due = paper;
            CHECK.due("full: shared(" + paper + ", " + paper + ")", due, () -> x.shared(due, due));
        }
        x.withdraw(1);
        CHECK.due("full but 1: shared(0, 0)", 0, () -> x.shared(0, 0));
        CHECK.due("full but 1: shared(2, 2)", 1, () -> x.shared(2, 2));
        CHECK.due("full but 1: shared(11, 11)", 10, () -> x.shared(11, 11));
    }

    /** "for a paper and itself how many cite it". */
    private static void jointOfAPaperAndItself() {
        Cocite x = Papers.full();
        for (int paper = 0; paper < 12; paper++) {
            int asked = paper;
            CHECK.due("full: joint(" + paper + ", " + paper + ")", 11 - paper, () -> x.joint(asked, asked));
        }
        x.withdraw(10);
        CHECK.due("full but 10: joint(11, 11)", 0, () -> x.joint(11, 11));
        CHECK.due("full but 10: joint(9, 9)", 1, () -> x.joint(9, 9));
        CHECK.due("full but 10: joint(0, 0)", 10, () -> x.joint(0, 0));
    }

    /** "as they are kept": by each paper that comes or goes. */
    private static void keptThroughChanges() {
        Cocite x = Papers.citing(0, 0, 3, 3);
        CHECK.due("shared(2, 3)", 2, () -> x.shared(2, 3));
        CHECK.due("joint(0, 1)", 2, () -> x.joint(0, 1));
        x.come(0, 15);
        CHECK.due("shared(2, 3), one came", 2, () -> x.shared(2, 3));
        CHECK.due("shared(3, 4), one came", 2, () -> x.shared(3, 4));
        CHECK.due("joint(0, 1), one came", 3, () -> x.joint(0, 1));
        CHECK.due("joint(1, 3), one came", 1, () -> x.joint(1, 3));
        x.withdraw(0);
        CHECK.due("shared(2, 3), their reference went", 1, () -> x.shared(2, 3));
        CHECK.due("shared(4, 4), a reference went", 3, () -> x.shared(4, 4));
        x.withdraw(4);
        CHECK.due("joint(1, 3), the one that cited both went", 0, () -> x.joint(1, 3));
        CHECK.due("joint(1, 1), one that cited it went", 2, () -> x.joint(1, 1));
        CHECK.due("shared(2, 3), one that cited both went", 1, () -> x.shared(2, 3));
    }

    /** "The weight of two unlike papers is both counts together." */
    private static void weightIsBothTogether() {
        CHECK.due("nothing between: total()", 0, () -> Papers.citing(0, 1).total());
        CHECK.due("shared alone: total()", 1, () -> Papers.citing(0, 1, 1).total());
        CHECK.due("joint alone: total()", 1, () -> Papers.citing(0, 0, 3).total());
        // 1 and 2 share 0 and are cited together by 3: no other two have a weight.
        Cocite x = Papers.citing(0, 1, 1, 6);
        CHECK.due("one pair with both: total()", 2, x::total);
        CHECK.due("one pair with both: totalAnew()", 2, x::totalAnew);
        CHECK.due("one pair with both: gain(0, 1)", 0, () -> x.gain(0, 1));
        CHECK.due("one pair with both: fields()", 3, x::fields);
    }

    /** "the sum of the weights of all two unlike papers": each two once, none with itself. */
    private static void allTwoUnlikePapers() {
        int[] due = {0, 0, 0, 2, 8, 20, 40, 70, 112, 168, 240, 330, 440};
        Cocite x = new Cocite();
        for (int papers = 0; papers <= 12; papers++) {
            CHECK.due(papers + " that cite all before: total()", due[papers], x::total);
            CHECK.due(papers + " that cite all before: totalAnew()", due[papers], x::totalAnew);
            if (papers < 12) {
                x.come(0, (1 << papers) - 1);
            }
        }
        Cocite cites = Papers.citing(0, 1);
        CHECK.due("a paper with itself is none: totalAnew()", 0, cites::totalAnew);
        CHECK.due("a paper with itself is none: total()", 0, cites::total);
    }

    /** "that are there, found from nothing by their references". */
    private static void foundFromNothing() {
        Cocite x = Papers.full();
        x.withdraw(11);
        CHECK.due("full but 11: totalAnew()", 330, x::totalAnew);
        x.withdraw(0);
        CHECK.due("full but 11 and 0: totalAnew()", 240, x::totalAnew);
        x.withdraw(5);
        CHECK.due("full but 11, 0 and 5: totalAnew()", 168, x::totalAnew);
    }

    /** "from the counts that are kept": back to 0 when all that made them have gone. */
    private static void keptDownToNothing() {
        int[] due = {330, 240, 168, 112, 70, 40, 20, 8, 2, 0, 0, 0};
        int[] order = {6, 0, 11, 3, 9, 1, 7, 10, 4, 2, 8, 5};
        Cocite x = Papers.full();
        for (int gone = 0; gone < 12; gone++) {
            x.withdraw(order[gone]);
            CHECK.due("full without " + (gone + 1) + ": total()", due[gone], x::total);
            CHECK.due("full without " + (gone + 1) + ": totalAnew()", due[gone], x::totalAnew);
        }
    }

    private static void due(String call, Cocite x, int paper, int other, int numerator, int denominator) {
        CHECK.due(call + ", numerator", numerator, () -> x.likenessNumerator(paper, other));
        CHECK.due(call + ", denominator", denominator, () -> x.likenessDenominator(paper, other));
    }

    /** "s * s / (a * b), where s are their shared references and a and b how many references they have". */
    private static void likenessOfEachTwo() {
        Cocite x = Papers.citing(0, 0, 0, 0, 1, 1, 3, 14, 15);
        due("1 of 1 and 1", x, 4, 5, 1, 1);
        due("1 of 1 and 2", x, 4, 6, 1, 2);
        due("1 of 2 and 1", x, 6, 4, 1, 2);
        due("1 of 2 and 3", x, 6, 7, 1, 6);
        due("1 of 3 and 2", x, 7, 6, 1, 6);
        due("1 of 1 and 4", x, 4, 8, 1, 4);
        due("3 of 3 and 4", x, 7, 8, 3, 4);
        due("a paper and itself, 4 of 4 and 4", x, 8, 8, 1, 1);
        x.withdraw(0);
        due("1 of 1 and 3, one has gone", x, 6, 8, 1, 3);
        due("3 of 3 and 3, one has gone", x, 7, 8, 1, 1);
        due("1 of 1 and 3, the other way round", x, 8, 6, 1, 3);
    }

    /** s is 0, but neither a nor b: 0 / (a * b) in lowest terms. */
    private static void nothingShared() {
        Cocite x = Papers.citing(0, 0, 0, 0, 1, 14, 2, 3);
        due("0 of 1 and 3", x, 4, 5, 0, 1);
        due("0 of 1 and 1", x, 4, 6, 0, 1);
        due("0 of 3 and 1", x, 5, 4, 0, 1);
        due("1 of 3 and 2", x, 5, 7, 1, 6);
        x.withdraw(1);
        due("0 of 2 and 1, the shared one has gone", x, 5, 7, 0, 1);
    }

    /** "in lowest terms". */
    private static void lowestTerms() {
        Cocite x = Papers.citing(0, 0, 0, 0, 0, 0, 7, 7, 15, 63, 60);
        due("9 / 9", x, 6, 7, 1, 1);
        due("9 / 12", x, 6, 8, 3, 4);
        due("9 / 18", x, 6, 9, 1, 2);
        due("16 / 24", x, 8, 9, 2, 3);
        due("16 / 24, the other way round", x, 9, 10, 2, 3);
        due("1 / 12", x, 6, 10, 1, 12);
        due("4 / 16", x, 8, 10, 1, 4);
        Cocite full = Papers.full();
        due("100 / 110", full, 10, 11, 10, 11);
        due("81 / 90", full, 9, 10, 9, 10);
        due("49 / 77", full, 7, 11, 7, 11);
        due("25 / 55", full, 5, 11, 5, 11);
        due("4 / 20", full, 2, 10, 1, 5);
        due("121 / 121", full, 11, 11, 1, 1);
        due("100 / 100", full, 10, 10, 1, 1);
    }

    /** "0 / 1 if a or b is 0." */
    private static void noReferences() {
        Cocite x = Papers.citing(0, 0, 1, 3);
        due("a is 0", x, 0, 3, 0, 1);
        due("b is 0", x, 3, 0, 0, 1);
        due("both are 0", x, 0, 1, 0, 1);
        due("both are 0, a paper and itself", x, 1, 1, 0, 1);
        due("neither is 0", x, 2, 3, 1, 2);
        due("neither is 0, a paper and itself", x, 2, 2, 1, 1);
        x.withdraw(0);
        due("a has become 0", x, 2, 3, 0, 1);
        due("b has become 0", x, 3, 2, 0, 1);
        due("it has become 0, a paper and itself", x, 2, 2, 0, 1);
        due("one is left, a paper and itself", x, 3, 3, 1, 1);
    }

    /** "with a denominator above 0", for each two of all literatures here. */
    private static void denominatorAboveZero() {
        for (Cocite x : new Cocite[] {Papers.full(), Papers.citing(0, 0, 0), Papers.citing(0, 1, 1, 2, 14)}) {
            for (int paper = 0; paper < x.papers(); paper++) {
                for (int other = 0; other < x.papers(); other++) {
                    boolean above = x.likenessDenominator(paper, other) > 0;
                    boolean notBelow = x.likenessNumerator(paper, other) >= 0;
                    CHECK.due("likeness(" + paper + ", " + other + ") has its signs", 1, () -> above && notBelow ? 1 : 0);
                }
            }
        }
    }

    /** All s, a and b of two papers that refer to no more than ten in all. */
    private static void allSmallLikenesses() {
        for (int a = 0; a <= 10; a++) {
            for (int b = 0; b <= 10; b++) {
                for (int s = Math.max(0, a + b - 10); s <= Math.min(a, b); s++) {
                    int divisor = s == 0 ? Math.max(1, a * b) : greatestCommon(s * s, a * b);
                    Cocite x = twoThatShare(s, a, b);
                    due(s + " of " + a + " and " + b, x, 10, 11, s * s / divisor, Math.max(1, a * b) / divisor);
                }
            }
        }
    }

    /** Ten papers that refer to none, then 10 with a and 11 with b references, s of them to the same. */
    private static Cocite twoThatShare(int s, int a, int b) {
        Cocite x = Papers.citing(0, 0, 0, 0, 0, 0, 0, 0, 0, 0);
        x.come(0, (1 << a) - 1);
        x.come(0, ((1 << b) - 1) << (a - s));
        return x;
    }

    private static int greatestCommon(int a, int b) {
        return b == 0 ? a : greatestCommon(b, a % b);
    }

    /** "if one of the papers has not come, or was withdrawn": each of the two, and both. */
    private static void papersThatAreNotThere() {
        NoPaper.refused(CHECK, "shared(?, 0)", (x, paper) -> x.shared(paper, 0));
        NoPaper.refused(CHECK, "shared(0, ?)", (x, paper) -> x.shared(0, paper));
        NoPaper.refused(CHECK, "shared(?, ?)", (x, paper) -> x.shared(paper, paper));
        NoPaper.refused(CHECK, "joint(?, 0)", (x, paper) -> x.joint(paper, 0));
        NoPaper.refused(CHECK, "joint(0, ?)", (x, paper) -> x.joint(0, paper));
        NoPaper.refused(CHECK, "joint(?, ?)", (x, paper) -> x.joint(paper, paper));
        NoPaper.refused(CHECK, "likenessNumerator(?, 0)", (x, paper) -> x.likenessNumerator(paper, 0));
        NoPaper.refused(CHECK, "likenessNumerator(0, ?)", (x, paper) -> x.likenessNumerator(0, paper));
        NoPaper.refused(CHECK, "likenessNumerator(?, ?)", (x, paper) -> x.likenessNumerator(paper, paper));
        NoPaper.refused(CHECK, "likenessDenominator(?, 0)", (x, paper) -> x.likenessDenominator(paper, 0));
        NoPaper.refused(CHECK, "likenessDenominator(0, ?)", (x, paper) -> x.likenessDenominator(0, paper));
        NoPaper.refused(CHECK, "likenessDenominator(?, ?)", (x, paper) -> x.likenessDenominator(paper, paper));
        Cocite x = NoPaper.threeOfFive();
        CHECK.due("there: shared(2, 3)", 1, () -> x.shared(2, 3));
        CHECK.due("there: shared(3, 3)", 2, () -> x.shared(3, 3));
        CHECK.due("there: joint(0, 2)", 1, () -> x.joint(0, 2));
        CHECK.due("there: joint(0, 0)", 2, () -> x.joint(0, 0));
        due("there: likeness(2, 3)", x, 2, 3, 1, 2);
        due("there: likeness(0, 3)", x, 0, 3, 0, 1);
    }
}
