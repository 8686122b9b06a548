/** The edges of the terms of fields and splits and of promises 13 to 16, a method for each sentence. */
public final class FieldEdgesTest {
    private static final Check CHECK = new Check();

    public static void main(String[] args) {
        eachPaperAFieldOfItsOwn();
        asLongAsAGainIsAboveZero();
        thoseWithTheGreatestGain();
        theLowerFieldWithTheLowerNumber();
        theOtherOneWithTheLowerNumber();
        fieldsInTheOrderOfTheirNumbers();
        theNumberOfTheLowestPaper();
        thoseForThePapersThatAreThereNow();
        howManyFields();
        gainOfTwoUnlikeFields();
        gainOfFieldsThatStayApart();
        noSuchField();
        bothAreTheSame();
        fieldsTooSmallForASplit();
        paysBelowZero();
        toldLikeTheGainOfTwoFields();
        theLeastGain();
        theLeastNumberOfSeveral();
        someNotAllAndWithItsLowest();
        splitsOfWideFields();
        papersThatAreNotThere();
        CHECK.end("FieldEdgesTest");
    }

    /** Each set of papers is a field, and no other is there. */
    private static void fieldsDue(String name, Cocite x, int... sets) {
        for (int set : sets) {
            int lowest = Integer.numberOfTrailingZeros(set);
            for (int paper = 0; paper < 12; paper++) {
                int asked = paper;
                if ((set >> paper & 1) == 1) {
                    CHECK.due(name + ": fieldOf(" + paper + ")", lowest, () -> x.fieldOf(asked));
                }
            }
        }
        CHECK.due(name + ": fields()", sets.length, x::fields);
    }

    /** "At first each paper that is there is a field of its own." */
    private static void eachPaperAFieldOfItsOwn() {
        fieldsDue("one paper", Papers.citing(0), 1);
        fieldsDue("one that cites one", Papers.citing(0, 1), 1, 2);
        fieldsDue("a row of three", Papers.citing(0, 1, 2), 1, 2, 4);
        fieldsDue("twelve that cite none", Papers.citing(0, 0, 0, 0, 0, 0, 0, 0, 0, 0, 0, 0),
                1, 2, 4, 8, 16, 32, 64, 128, 256, 512, 1024, 2048);
        Cocite x = Papers.citing(0, 0, 0);
        x.withdraw(1);
        fieldsDue("1 has gone", x, 1, 4);
    }

    /** "As long as some two fields have a gain above 0, those .. are joined." */
    private static void asLongAsAGainIsAboveZero() {
        // The only weight is 1, of 1 and 2: 2 * 1 * 1 - 1 * 1.
        fieldsDue("a gain of 1 of two papers", Papers.citing(0, 1, 1), 1, 6);
        // Weights: 0 with 1 has 1, 1 with 2 has 1. First 0 and 1, by 2 * 2 * 1 - 1 * 2, then
        // 2 * 2 * 1 - 3 * 1.
        fieldsDue("a gain of 1 of two papers and one", Papers.citing(0, 1, 3), 7);
        fieldsDue("a gain of 1 and one more behind it", Papers.citing(0, 0, 2, 5, 0, 5, 24, 18), 58, 197);
        Cocite zero = Papers.citing(0, 0, 1, 7);
        fieldsDue("a gain of 0, with a weight between", zero, 3, 12);
        CHECK.due("it is 0: gain(0, 2)", 0, () -> zero.gain(0, 2));
        Cocite below = Papers.citing(0, 0, 3, 2, 4, 20);
        fieldsDue("a gain of -1, with a weight between", below, 3, 12, 48);
        CHECK.due("it is -1: gain(2, 4)", -1, () -> below.gain(2, 4));
        fieldsDue("no weight at all, all gains 0", Papers.citing(0, 1, 2, 4), 1, 2, 4, 8);
        fieldsDue("a paper without weight stays alone", Papers.citing(0, 1, 1, 0), 1, 6, 8);
    }

    /** "those with the greatest gain are joined". */
    private static void thoseWithTheGreatestGain() {
        // Not the first pair with a gain, nor the one with the greatest weight.
        fieldsDue("greatest gain", Papers.citing(0, 0, 1, 7), 3, 12);
        fieldsDue("greatest gain later on", Papers.citing(0, 1, 3, 1, 2), 11, 20);
        // 0 with 1: 2 * 4 * 1 - 2 * 2 is 4; 0 with 2: 2 * 4 * 1 - 2 * 3 is 2; 2 with 3 is 2 * 4 * 1 - 3 * 1, 5.
        Cocite x = Papers.citing(0, 0, 1, 7);
        CHECK.due("5 is greater than 4: fieldOf(3)", 2, () -> x.fieldOf(3));
        CHECK.due("5 is greater than 4: fieldOf(2)", 2, () -> x.fieldOf(2));
    }

    /** "of several those whose lower field has the lower number". */
    private static void theLowerFieldWithTheLowerNumber() {
        fieldsDue("the higher of them first would be {0, 1}, {2, 3, 4}", Papers.citing(0, 1, 3, 1, 2), 11, 20);
        fieldsDue("the lower other one first would be {0, 1}, {2, 3, 4, 5}", Papers.citing(0, 0, 1, 6, 3, 9), 11, 52);
        fieldsDue("the same among joined ones", Papers.citing(0, 1, 2, 5, 2, 26), 10, 53);
    }

    /** "then those whose other one has it." */
    private static void theOtherOneWithTheLowerNumber() {
        fieldsDue("the highest other would be {1, 2}, {0, 3, 4}", Papers.citing(0, 0, 0, 6, 13), 7, 24);
    }

    /** The number of a field that was joined is compared, not when or where it was joined. */
    private static void fieldsInTheOrderOfTheirNumbers() {
        fieldsDue("joined ones last would be {0, 1}, {2, 3, 4}", Papers.citing(0, 0, 3, 5, 10), 11, 20);
        fieldsDue("joined ones in the place of the other would be {0, 4}, {1, 2, 3}, {5}",
                Papers.citing(0, 0, 0, 6, 10, 17), 6, 25, 32);
    }

    /** "A field has the number of its lowest paper." */
    private static void theNumberOfTheLowestPaper() {
        fieldsDue("the lowest joined last, to two", Papers.citing(0, 0, 0, 7, 9), 7, 24);
        fieldsDue("the lowest joined last, to three", Papers.citing(0, 0, 1, 3, 1, 5), 3, 60);
        fieldsDue("two fields in one another", Papers.citing(0, 1, 3, 1, 6), 31);
        fieldsDue("the last two papers", Papers.citing(0, 0, 0, 0, 0, 0, 0, 0, 0, 0, 256, 256),
                1, 2, 4, 8, 16, 32, 64, 128, 256, 512, 3072);
        fieldsDue("the second paper to the twelfth", Papers.citing(0, 1, 1, 1, 1, 1, 1, 1, 1, 1, 1, 1), 1, 4094);
        Cocite x = Papers.citing(0, 1, 1, 1);
        fieldsDue("1, 2 and 3", x, 1, 14);
        x.withdraw(1);
        fieldsDue("2 and 3, as 1 has gone", x, 1, 12);
        x.withdraw(2);
        fieldsDue("3, as 2 has gone", x, 1, 8);
    }

    /** "Fields are always those that come out of this for the papers that are there now." */
    private static void thoseForThePapersThatAreThereNow() {
        Cocite parting = Papers.citing(0, 1, 1);
        fieldsDue("before 3 comes", parting, 1, 6);
        parting.come(0, 3);
        fieldsDue("3 comes between 1 and 2", parting, 3, 12);
        Cocite far = Papers.citing(0, 1, 3);
        fieldsDue("before 3 comes to another", far, 7);
        far.come(0, 2);
        fieldsDue("3 takes 2 away", far, 3, 12);
        far.withdraw(3);
        fieldsDue("3 has gone again", far, 7);
        Cocite joining = Papers.citing(0, 1, 0, 4);
        fieldsDue("before 4 comes", joining, 1, 2, 4, 8);
        joining.come(0, 5);
        fieldsDue("4 comes and joins others", joining, 5, 26);
        joining.withdraw(4);
        fieldsDue("4 has gone again", joining, 1, 2, 4, 8);
        Cocite x = Papers.citing(0, 1, 2, 3);
        fieldsDue("before 2 goes", x, 3, 12);
        x.withdraw(2);
        fieldsDue("2 has gone, 1 and 3 are joined", x, 1 | 2 | 8);
    }

    /** "Returns how many fields there are." */
    private static void howManyFields() {
        Cocite x = new Cocite();
        CHECK.due("none: fields()", 0, x::fields);
        x.come(0, 0);
        CHECK.due("one paper: fields()", 1, x::fields);
        x.withdraw(0);
        CHECK.due("one withdrawn: fields()", 0, x::fields);
        CHECK.due("one of six: fields()", 1, () -> Papers.citing(0, 1, 0, 3, 1, 31).fields());
        CHECK.due("twelve: fields()", 12, () -> Papers.citing(0, 0, 0, 0, 0, 0, 0, 0, 0, 0, 0, 0).fields());
        CHECK.due("twelve in a row: fields()", 12,
                () -> Papers.citing(0, 1, 2, 4, 8, 16, 32, 64, 128, 256, 512, 1024).fields());
    }

    /** "2 * total * (the sum of the weights ..) - (strength of the one) * (strength of the other one)". */
    private static void gainOfTwoUnlikeFields() {
        // Weights: 2 with 3 has 1, 4 with 5 has 1; 0 and 1 have none.
        Cocite x = Papers.citing(0, 0, 1, 1, 2, 2);
        fieldsDue("two pairs and two alone", x, 1, 2, 12, 48);
        CHECK.due("none between: gain(2, 4)", -4, () -> x.gain(2, 4));
        CHECK.due("the other way round: gain(4, 2)", -4, () -> x.gain(4, 2));
        CHECK.due("one without strength: gain(0, 2)", 0, () -> x.gain(0, 2));
        CHECK.due("both without strength: gain(0, 1)", 0, () -> x.gain(0, 1));
        CHECK.due("without any weight: gain(0, 1)", 0, () -> Papers.citing(0, 1).gain(0, 1));
        // Weights: 0 with 1, 0 with 2, 1 with 2, 2 with 3 have 1: the total is 4, both strengths are 4, 2 is between.
        CHECK.due("a weight between: gain(0, 2)", 0, () -> Papers.citing(0, 0, 1, 7).gain(0, 2));
        CHECK.due("a weight between: gain(2, 0)", 0, () -> Papers.citing(0, 0, 1, 7).gain(2, 0));
        // Weights: 0 with 1, 2 with 3, 2 with 4, 4 with 5 have 1: the total is 4, the strengths are 2, 3 and 3.
        Cocite y = Papers.citing(0, 0, 3, 2, 4, 20);
        CHECK.due("none between: gain(0, 2)", -6, () -> y.gain(0, 2));
        CHECK.due("none between: gain(4, 0)", -6, () -> y.gain(4, 0));
        CHECK.due("1 between: gain(2, 4)", -1, () -> y.gain(2, 4));
        Cocite wide = Papers.citing(0, 0, 0, 6, 10, 17);
        CHECK.due("three fields: gain(0, 1)", Papers.gainOf(25, 6, 0, 0, 0, 6, 10, 17), () -> wide.gain(0, 1));
        CHECK.due("three fields: gain(0, 5)", Papers.gainOf(25, 32, 0, 0, 0, 6, 10, 17), () -> wide.gain(0, 5));
        CHECK.due("three fields: gain(5, 1)", Papers.gainOf(32, 6, 0, 0, 0, 6, 10, 17), () -> wide.gain(5, 1));
        wide.withdraw(5);
        CHECK.due("without 5: gain(0, 5)", Check.NO_SUCH_ELEMENT, () -> wide.gain(0, 5));
    }

    /** No two fields are left with a gain above 0. */
    private static void gainOfFieldsThatStayApart() {
        int[][] literatures = {
            {0, 0, 1, 7}, {0, 1, 3, 1, 2}, {0, 0, 3, 2, 4, 20}, {0, 0, 0, 6, 10, 17}, {0, 1, 2, 5, 2, 26},
            {0, 0, 0, 0, 2, 17, 4, 0, 163, 6, 12, 1792},
        };
        for (int[] references : literatures) {
            Cocite x = Papers.citing(references);
            for (int field = 0; field < references.length; field++) {
                for (int other = 0; other < references.length; other++) {
                    if (x.fieldOf(field) == field && x.fieldOf(other) == other && field != other) {
                        int gain = x.gain(field, other);
                        CHECK.due("gain(" + field + ", " + other + ") is not above 0", 0, () -> Math.max(gain, 0));
                    }
                }
            }
        }
    }

    /** "if there is no such field, or no such other one": papers that are in a field of another number too. */
    private static void noSuchField() {
        Cocite x = Papers.citing(0, 1, 1, 0);
        fieldsDue("{0}, {1, 2}, {3}", x, 1, 6, 8);
        CHECK.due("gain(0, 1)", 0, () -> x.gain(0, 1));
        CHECK.due("gain(2, 0), a paper but no field", Check.NO_SUCH_ELEMENT, () -> x.gain(2, 0));
        CHECK.due("gain(0, 2), a paper but no field", Check.NO_SUCH_ELEMENT, () -> x.gain(0, 2));
        CHECK.due("gain(1, 2), a paper of the field itself", Check.NO_SUCH_ELEMENT, () -> x.gain(1, 2));
        CHECK.due("gain(4, 0), not come", Check.NO_SUCH_ELEMENT, () -> x.gain(4, 0));
        CHECK.due("gain(0, 4), not come", Check.NO_SUCH_ELEMENT, () -> x.gain(0, 4));
        CHECK.due("split(2), a paper but no field", Check.NO_SUCH_ELEMENT, () -> x.split(2));
        CHECK.due("split(1)", 0, () -> x.split(1));
        x.withdraw(1);
        CHECK.due("gain(0, 1), withdrawn", Check.NO_SUCH_ELEMENT, () -> x.gain(0, 1));
        CHECK.due("gain(0, 2), a field now", 0, () -> x.gain(0, 2));
        CHECK.due("split(1), withdrawn", Check.NO_SUCH_ELEMENT, () -> x.split(1));
        CHECK.due("split(2), a field now", 0, () -> x.split(2));
    }

    /** "if both are the same", behind NoSuchElementException, which the throws clause names first. */
    private static void bothAreTheSame() {
        Cocite x = Papers.citing(0, 1, 1, 0);
        CHECK.due("gain(0, 0)", Check.ILLEGAL_ARGUMENT, () -> x.gain(0, 0));
        CHECK.due("gain(1, 1)", Check.ILLEGAL_ARGUMENT, () -> x.gain(1, 1));
        CHECK.due("gain(3, 3)", Check.ILLEGAL_ARGUMENT, () -> x.gain(3, 3));
        CHECK.due("gain(2, 2), no field", Check.NO_SUCH_ELEMENT, () -> x.gain(2, 2));
        CHECK.due("gain(4, 4), not come", Check.NO_SUCH_ELEMENT, () -> x.gain(4, 4));
        CHECK.due("gain(12, 12)", Check.NO_SUCH_ELEMENT, () -> x.gain(12, 12));
        CHECK.due("gain(-1, -1)", Check.NO_SUCH_ELEMENT, () -> x.gain(-1, -1));
        CHECK.due("gain(1, 3), unlike", 0, () -> x.gain(1, 3));
        x.withdraw(3);
        CHECK.due("gain(3, 3), withdrawn", Check.NO_SUCH_ELEMENT, () -> x.gain(3, 3));
    }

    /** "A split of a field with two papers or more": one has none, and two or three have none that pays. */
    private static void fieldsTooSmallForASplit() {
        CHECK.due("one of one: split(0)", 0, () -> Papers.citing(0).split(0));
        Cocite x = Papers.citing(0, 1, 1);
        CHECK.due("one of three: split(0)", 0, () -> x.split(0));
        CHECK.due("two of three: split(1)", 0, () -> x.split(1));
        CHECK.due("three of three: split(0)", 0, () -> Papers.citing(0, 1, 3).split(0));
        // 1, 3, 4 and 5 are a field; 1 has weights outside it.
        Cocite four = Papers.citing(0, 1, 0, 6, 5, 12);
        fieldsDue("four and two", four, 5, 58);
        CHECK.due("four of six: split(1)", 2, () -> four.split(1));
        CHECK.due("two of six: split(0)", 0, () -> four.split(0));
    }

    /** "It pays if the gain .. is below 0"; "0 if no split of it pays." */
    private static void paysBelowZero() {
        CHECK.due("the least gain is 2: split(0)", 0, () -> Papers.citing(0, 1, 3, 1, 2).split(0));
        CHECK.due("the least gain is 1: split(0)", 0, () -> Papers.citing(0, 1, 3).split(0));
        CHECK.due("the least gain is 1, of five: split(0)", 0, () -> Papers.citing(0, 1, 3, 0, 14).split(0));
        CHECK.due("the least gain is 0: split(0)", 0, () -> Papers.citing(0, 1, 3, 6).split(0));
        CHECK.due("the least gain is 0, of six: split(0)", 0, () -> Papers.citing(0, 1, 0, 3, 1, 31).split(0));
        Cocite four = Papers.citing(0, 1, 3, 1, 7, 10, 49);
        fieldsDue("a split of -1", four, 52, 75);
        CHECK.due("the least gain is -1: split(0)", 1, () -> four.split(0));
        CHECK.due("the least gain is -1: its parts", -1, () -> Papers.gainOf(1, 74, 0, 1, 3, 1, 7, 10, 49));
        Cocite five = Papers.citing(0, 0, 1, 1, 4, 17, 39);
        fieldsDue("a split of -1 of five", five, 17, 110);
        CHECK.due("the least gain is -1, of five: split(1)", 2, () -> five.split(1));
        CHECK.due("the least gain is -2: split(1)", 2, () -> Papers.citing(0, 1, 0, 6, 5, 12).split(1));
    }

    /** "the gain of the one part and the other, told like that of two fields": with the total of all papers. */
    private static void toldLikeTheGainOfTwoFields() {
        Cocite pays = Papers.citing(0, 0, 2, 5, 3, 9);
        fieldsDue("it would not pay by the weights inside alone", pays, 3, 60);
        CHECK.due("pays by all weights: split(2)", 4, () -> pays.split(2));
        Cocite not = Papers.citing(0, 0, 3, 0, 14, 12);
        fieldsDue("it would pay by the weights inside alone", not, 15, 48);
        CHECK.due("does not pay by all weights: split(0)", 0, () -> not.split(0));
        Cocite another = Papers.citing(0, 0, 1, 1, 13, 18, 3);
        fieldsDue("another would pay by the weights inside alone", another, 31, 96);
        CHECK.due("pays by all weights: split(0)", 13, () -> another.split(0));
    }

    /** "The best split is the one with the least gain". */
    private static void theLeastGain() {
        // The parts 3, 7 and 15 have the gains -3, -12 and -16.
        CHECK.due("not the first that pays: split(0)", 15, () -> Papers.citing(0, 1, 3, 5, 14, 20).split(0));
        // The parts 15 and 47 have the gains -15 and -16.
        CHECK.due("less by 1: split(0)", 47, () -> Papers.citing(0, 1, 3, 2, 5, 9, 46).split(0));
        // The parts 5 and 27 both have the gain -15.
        CHECK.due("less by 0: split(0)", 5, () -> Papers.citing(0, 1, 2, 5, 9, 27).split(0));
    }

    /** "of several the one whose part with the lowest paper is the least number". */
    private static void theLeastNumberOfSeveral() {
        CHECK.due("of 5 and 27: split(0)", 5, () -> Papers.citing(0, 1, 2, 5, 9, 27).split(0));
        CHECK.due("of 7, 45 and 73: split(0)", 7, () -> Papers.citing(0, 1, 0, 6, 13, 2, 52).split(0));
        CHECK.due("of 13, 23, 41 and 51: split(0)", 13, () -> Papers.citing(0, 1, 1, 2, 13, 6, 51).split(0));
        CHECK.due("of 15, 25 and 35, not the fewest papers: split(0)", 15,
                () -> Papers.citing(0, 0, 1, 0, 6, 29, 35).split(0));
        CHECK.due("of 11 and 81: split(0)", 11, () -> Papers.citing(0, 0, 2, 1, 10, 25, 44).split(0));
        CHECK.due("of 175 and 179, with a gap: split(0)", 175,
                () -> Papers.citing(0, 0, 0, 0, 2, 17, 4, 0, 163, 6, 12, 1792).split(0));
    }

    /** "some of its papers, not all, and with its lowest paper". */
    private static void someNotAllAndWithItsLowest() {
        CHECK.due("the lowest alone of {0, 2, 3, 5, 6}: split(0)", 1, () -> Papers.citing(0, 0, 2, 2, 13, 3, 18).split(0));
        CHECK.due("the lowest alone of {1, 3, 4, 5, 6, 7, 8}: split(1)", 2,
                () -> Papers.citing(0, 0, 0, 5, 1, 5, 59, 1, 72).split(1));
        CHECK.due("all but the highest of {1, 2, 3, 5}: split(1)", 14, () -> Papers.citing(0, 0, 1, 1, 10, 22, 40).split(1));
        CHECK.due("all but the highest of 0 to 5: split(0)", 31, () -> Papers.citing(0, 0, 0, 4, 0, 20, 56, 27).split(0));
        CHECK.due("all but one of 0 to 6: split(0)", 95, () -> Papers.citing(0, 0, 0, 0, 2, 2, 40, 95, 17).split(0));
        CHECK.due("all but one of 2 to 5: split(2)", 52, () -> Papers.citing(0, 0, 3, 1, 10, 18).split(2));
        CHECK.due("{1, 2} of 1 to 6: split(1)", 6, () -> Papers.citing(0, 0, 0, 4, 6, 20, 50).split(1));
    }

    /** Fields of ten and eleven papers, up to the twelfth. */
    private static void splitsOfWideFields() {
        Cocite ten = Papers.citing(0, 1, 3, 3, 3, 22, 35, 2, 15, 451, 313, 1091);
        fieldsDue("2 to 11", ten, 3, 4092);
        CHECK.due("2 to 11: split(2)", 3004, () -> ten.split(2));
        CHECK.due("0 and 1: split(0)", 0, () -> ten.split(0));
        Cocite lowest = Papers.citing(0, 1, 1, 1, 2, 4, 3, 17, 3, 254, 442, 513);
        fieldsDue("ten of 0 to 11", lowest, 2559, 1536);
        CHECK.due("the lowest alone of ten: split(0)", 1, () -> lowest.split(0));
        Cocite eleven = Papers.citing(0, 1, 1, 1, 1, 1, 1, 1, 1, 1, 1, 1);
        fieldsDue("1 to 11", eleven, 1, 4094);
        CHECK.due("eleven that are all alike: split(1)", 0, () -> eleven.split(1));
    }

    /** "if the paper has not come, or was withdrawn": of fieldOf; no field has its number either. */
    private static void papersThatAreNotThere() {
        NoPaper.refused(CHECK, "fieldOf(?)", Cocite::fieldOf);
        NoPaper.refused(CHECK, "split(?)", Cocite::split);
        NoPaper.refused(CHECK, "gain(?, 0)", (x, paper) -> x.gain(paper, 0));
        NoPaper.refused(CHECK, "gain(0, ?)", (x, paper) -> x.gain(0, paper));
        NoPaper.refused(CHECK, "gain(?, ?)", (x, paper) -> x.gain(paper, paper));
        Cocite x = NoPaper.threeOfFive();
        fieldsDue("there: {0, 2, 3}", x, 1 | 4 | 8);
    }
}
