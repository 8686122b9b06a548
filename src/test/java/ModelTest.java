/** Long runs of made-up calls, each answered as the plain model answers it. */
public final class ModelTest {
    private static final int RUNS = 2000;
    // A change and its questions 16 times make 512 calls: no object is asked more.
    private static final int CHANGES = 16;
    private static final int ASKED_AFTER_EACH = 31;
    private static final int QUESTIONS = 21;

    private final Check check = new Check();
    private long seed = 20261119;
    private int payingSplits = 0;

    public static void main(String[] args) {
        ModelTest test = new ModelTest();
        boolean allRight = true;
        for (int run = 0; run < RUNS && allRight; run++) {
            allRight = test.run(run);
        }
        test.check.due("some splits of the runs pay", 1, () -> test.payingSplits > 0 ? 1 : 0);
        test.check.end("ModelTest");
    }

    /** A number from 0 to below, the same ones in each run of the tests. */
    private int next(int below) {
        seed = seed * 6364136223846793005L + 1442695040888963407L;
        return (int) ((seed >>> 33) % below);
    }

    private boolean run(int run) {
        Cocite real = new Cocite();
        Model model = new Model();
        int withdrawals = next(4);
        int density = 1 + next(9);
        int year = next(20);
        boolean right = true;
        for (int step = 0; step < CHANGES && right; step++) {
            if (next(10) < withdrawals) {
                int paper = next(13);
                right = both(run, "withdraw", model, real, QUESTIONS + 1, paper, 0);
            } else {
                year += next(3) == 0 ? next(4) : 0;
                right = both(run, "come", model, real, QUESTIONS, Math.min(year, 99), someReferences(model, density));
            }
            right = right && askSome(run, model, real);
        }
        return right;
    }

    private int someReferences(Model model, int density) {
        int references = next(12) == 0 ? 1 << next(14) : 0;
        for (int paper = 0; paper < 12; paper++) {
            int asked = paper;
            if (next(10) < density && Check.answer(() -> model.references(asked)) != Check.NO_SUCH_ELEMENT) {
                references |= 1 << paper;
            }
        }
        return references;
    }

    private boolean askSome(int run, Model model, Cocite real) {
        boolean right = true;
        // Fields and splits are the widest questions, so they are asked more often.
        for (int asked = 0; asked < ASKED_AFTER_EACH && right; asked++) {
            int question = next(5) == 0 ? 8 + next(4) : next(QUESTIONS);
            right = both(run, "question " + question, model, real, question, next(15) - 2, yearOrPaper());
        }
        return right;
    }

    private int yearOrPaper() {
        return next(2) == 0 ? next(15) - 2 : next(3) == 0 ? next(103) - 1 : next(30);
    }

    private boolean both(int run, String name, Model model, Cocite real, int call, int one, int two) {
        long want = Check.answer(() -> ofModel(model, call, one, two));
        if (call == 11 && want > 0) {
            payingSplits++;
        }
        return check.due("run " + run + ": " + name + "(" + one + ", " + two + ")", want,
                () -> ofReal(real, call, one, two));
    }

    private static long ofModel(Model x, int call, int one, int two) {
        return switch (call) {
            case 0 -> x.papers();
            case 1 -> x.references(one);
            case 2 -> x.citing(one);
            case 3 -> x.shared(one, two);
            case 4 -> x.joint(one, two);
            case 5 -> x.total();
            case 6 -> x.likenessNumerator(one, two);
            case 7 -> x.likenessDenominator(one, two);
            case 8 -> x.fieldOf(one);
            case 9 -> x.fields();
            case 10 -> x.gain(one, two);
            case 11 -> x.split(one);
            case 12 -> x.count(one, two);
            case 13 -> x.ways();
            case 14 -> x.mainLength();
            case 15 -> x.mainAt(one);
            case 16 -> x.mainSum();
            case 17 -> x.rise(one, two);
            case 18 -> x.riser(two);
            case 19 -> x.heir(one);
            case 20 -> x.total();
            case 21 -> x.come(one, two);
            default -> x.withdraw(one);
        };
    }

    private static long ofReal(Cocite x, int call, int one, int two) {
        return switch (call) {
            case 0 -> x.papers();
            case 1 -> x.references(one);
            case 2 -> x.citing(one);
            case 3 -> x.shared(one, two);
            case 4 -> x.joint(one, two);
            case 5 -> x.total();
            case 6 -> x.likenessNumerator(one, two);
            case 7 -> x.likenessDenominator(one, two);
            case 8 -> x.fieldOf(one);
            case 9 -> x.fields();
            case 10 -> x.gain(one, two);
            case 11 -> x.split(one);
            case 12 -> x.count(one, two);
            case 13 -> x.ways();
            case 14 -> x.mainLength();
            case 15 -> x.mainAt(one);
            case 16 -> x.mainSum();
            case 17 -> x.rise(one, two);
            case 18 -> x.riser(two);
            case 19 -> x.heir(one);
            case 20 -> x.totalAnew();
            case 21 -> x.come(one, two);
            default -> x.withdraw(one);
        };
    }
}
