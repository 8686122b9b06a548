/** Promises 13 to 16. */
public final class FieldsTest {
    private static final Check CHECK = new Check();

    public static void main(String[] args) {
        eachOfItsOwn();
        joinedByGain();
        joinedInOrderWhereGainsAreAlike();
        fieldsFollowChanges();
        gains();
        splits();
        splitsThatPayAlike();
        CHECK.end("FieldsTest");
    }

    private static void fieldsDue(String name, Cocite x, int... fields) {
        int unlike = 0;
        for (int paper = 0; paper < fields.length; paper++) {
            int asked = paper;
            CHECK.due(name + ": fieldOf(" + paper + ")", fields[paper], () -> x.fieldOf(asked));
            unlike += fields[paper] == paper ? 1 : 0;
        }
        CHECK.due(name + ": fields()", unlike, x::fields);
    }

    private static void eachOfItsOwn() {
        Cocite x = new Cocite();
        CHECK.due("new: fields()", 0, x::fields);
        CHECK.due("new: fieldOf(0)", Check.NO_SUCH_ELEMENT, () -> x.fieldOf(0));
        x.come(0, 0);
        x.come(0, 1);
        fieldsDue("a citing alone joins nothing", x, 0, 1);
        CHECK.due("fieldOf(2)", Check.NO_SUCH_ELEMENT, () -> x.fieldOf(2));
        CHECK.due("fieldOf(-1)", Check.NO_SUCH_ELEMENT, () -> x.fieldOf(-1));
    }

    private static void joinedByGain() {
        // 0 and 1 are cited together by two, which share two references.
        fieldsDue("two pairs", Papers.citing(0, 0, 3, 3), 0, 0, 2, 2);
        fieldsDue("shared alone", Papers.citing(0, 1, 1), 0, 1, 1);
        fieldsDue("joint alone", Papers.citing(0, 0, 3), 0, 0, 2);
    }

    private static void joinedInOrderWhereGainsAreAlike() {
        fieldsDue("the last pair would be wrong", Papers.citing(0, 0, 1, 7, 1), 0, 0, 0, 3, 3);
        fieldsDue("the lowest other first would be wrong", Papers.citing(0, 1, 0, 0, 14, 21), 0, 1, 0, 1, 0, 1);
        fieldsDue("the highest other would be wrong", Papers.citing(0, 0, 0, 6, 11), 0, 0, 0, 3, 3);
    }

    private static void fieldsFollowChanges() {
        Cocite x = Papers.citing(0, 0, 3, 3, 0);
        fieldsDue("before", x, 0, 0, 2, 2, 4);
        x.withdraw(2);
        CHECK.due("fieldOf(2) withdrawn", Check.NO_SUCH_ELEMENT, () -> x.fieldOf(2));
        CHECK.due("fields() without 2", 3, x::fields);
        CHECK.due("fieldOf(3) without 2", 3, () -> x.fieldOf(3));
        x.withdraw(0);
        CHECK.due("fieldOf(1) without 0", 1, () -> x.fieldOf(1));
        CHECK.due("fields() without 0", 3, x::fields);
        x.come(0, 2);
        CHECK.due("fieldOf(5), which shares with 3", 3, () -> x.fieldOf(5));
        CHECK.due("fields() with 5", 3, x::fields);
    }

    private static void gains() {
        // Weights: 0 with 1 has 2, 2 with 3 has 2, no other; 4 has none.
        Cocite x = Papers.citing(0, 0, 3, 3, 0);
        CHECK.due("gain(0, 2)", -16, () -> x.gain(0, 2));
        CHECK.due("gain(2, 0)", -16, () -> x.gain(2, 0));
        CHECK.due("gain(0, 4)", 0, () -> x.gain(0, 4));
        CHECK.due("gain(0, 0)", Check.ILLEGAL_ARGUMENT, () -> x.gain(0, 0));
        CHECK.due("gain(4, 4)", Check.ILLEGAL_ARGUMENT, () -> x.gain(4, 4));
        CHECK.due("gain(1, 1), no field", Check.NO_SUCH_ELEMENT, () -> x.gain(1, 1));
        CHECK.due("gain(1, 0), no field", Check.NO_SUCH_ELEMENT, () -> x.gain(1, 0));
        CHECK.due("gain(0, 3), no field", Check.NO_SUCH_ELEMENT, () -> x.gain(0, 3));
        CHECK.due("gain(5, 5)", Check.NO_SUCH_ELEMENT, () -> x.gain(5, 5));
        CHECK.due("gain(-1, 0)", Check.NO_SUCH_ELEMENT, () -> x.gain(-1, 0));
        CHECK.due("gain(0, 32)", Check.NO_SUCH_ELEMENT, () -> x.gain(0, 32));
        x.withdraw(4);
        CHECK.due("gain(0, 4) withdrawn", Check.NO_SUCH_ELEMENT, () -> x.gain(0, 4));
        // 0, 1, 2 are cited together by 4; 3 shares 0 with 4. Total 4, between none, strengths 6 and 2.
        Cocite y = Papers.citing(0, 0, 0, 1, 7);
        fieldsDue("y", y, 0, 0, 0, 3, 3);
        CHECK.due("y: gain(0, 3)", -12, () -> y.gain(0, 3));
        // Fields {0, 3, 4} and {1, 2} with weight between them.
        Cocite z = Papers.citing(0, 0, 0, 6, 11);
        fieldsDue("z", z, 0, 0, 0, 3, 3);
        CHECK.due("z: gain(0, 3)", Papers.gainOf(7, 24, 0, 0, 0, 6, 11), () -> z.gain(0, 3));
    }

    private static void splits() {
        Cocite pairs = Papers.citing(0, 0, 3, 3, 0);
        CHECK.due("split(0) of a pair that holds", 0, () -> pairs.split(0));
        CHECK.due("split(4) of one paper", 0, () -> pairs.split(4));
        CHECK.due("split(1), no field", Check.NO_SUCH_ELEMENT, () -> pairs.split(1));
        CHECK.due("split(5)", Check.NO_SUCH_ELEMENT, () -> pairs.split(5));
        CHECK.due("split(-1)", Check.NO_SUCH_ELEMENT, () -> pairs.split(-1));
        CHECK.due("split(34)", Check.NO_SUCH_ELEMENT, () -> pairs.split(34));
        Cocite none = new Cocite();
        CHECK.due("new: split(0)", Check.NO_SUCH_ELEMENT, () -> none.split(0));

        Cocite small = Papers.citing(0, 1, 0, 1);
        CHECK.due("a pair of gain 1: split(1)", 0, () -> small.split(1));
        Cocite even = Papers.citing(0, 1, 3, 6);
        fieldsDue("one field", even, 0, 0, 0, 0);
        CHECK.due("a least gain of 0 does not pay: split(0)", 0, () -> even.split(0));
        Cocite first = Papers.citing(0, 1, 2, 6, 5, 4);
        fieldsDue("fields that cross", first, 0, 1, 0, 1, 1, 1);
        CHECK.due("the lowest one of a higher field apart: split(1)", 2, () -> first.split(1));

        Cocite higher = Papers.citing(0, 0, 3, 2, 9, 17);
        CHECK.due("a field of 2, 3, 4, 5: fieldOf(3)", 2, () -> higher.fieldOf(3));
        CHECK.due("a field of 2, 3, 4, 5: split(2)", 52, () -> higher.split(2));
        CHECK.due("its other field: split(0)", 0, () -> higher.split(0));
        higher.withdraw(5);
        CHECK.due("without 5: split(2)", 0, () -> higher.split(2));
        Cocite alone = Papers.citing(0, 1, 3, 4, 12, 9);
        CHECK.due("the lowest one apart: split(0)", 1, () -> alone.split(0));
        alone.withdraw(0);
        CHECK.due("without 0: split(0)", Check.NO_SUCH_ELEMENT, () -> alone.split(0));
        Cocite most = Papers.citing(0, 1, 2, 1, 6, 23);
        CHECK.due("most of it apart: split(0)", 23, () -> most.split(0));
    }

    private static void splitsThatPayAlike() {
        Cocite two = Papers.citing(0, 1, 2, 5, 9, 27);
        CHECK.due("two alike: split(0)", 5, () -> two.split(0));
        Cocite three = Papers.citing(0, 1, 2, 6, 5, 11, 2);
        CHECK.due("three alike: split(0)", 7, () -> three.split(0));
        Cocite among = Papers.citing(0, 1, 3, 2, 6, 29, 43);
        CHECK.due("three alike, gaps between: split(0)", 25, () -> among.split(0));
    }
}
