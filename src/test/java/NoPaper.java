/** Asks a call for papers that are not there, where each is due to be refused. */
final class NoPaper {
    /** Beside 0 to 11, far from it, and numbers that shifts or products of ints take back into it. */
    private static final int[] NEVER = {
        -1, -2, -12, -32, Integer.MIN_VALUE, 12, 13, 31, 32, 33, 43, 64, 144,
        357913941, 357913942, 1073741824, Integer.MAX_VALUE,
    };

    interface Call {
        long of(Cocite x, int paper);
    }

    private NoPaper() {
    }

    /** Of the papers 0 to 4 that have come, 0, 2 and 3 are there; 2 refers to 0, 3 to 0 and 2. */
    static Cocite threeOfFive() {
        Cocite x = Papers.citing(0, 1, 3, 7, 1);
        x.withdraw(1);
        x.withdraw(4);
        return x;
    }

    /** All that have not come or were withdrawn; a second paper that the call names may be 0. */
    static void refused(Check check, String name, Call call) {
        Cocite none = new Cocite();
        Cocite some = threeOfFive();
        Cocite full = Papers.full();
        due(check, "new: " + name, none, call, 0, 1, 11);
        due(check, "none has come: " + name, none, call, NEVER);
        due(check, "withdrawn: " + name, some, call, 1, 4);
        due(check, "not come yet: " + name, some, call, 5, 6, 11);
        due(check, "five have come: " + name, some, call, NEVER);
        due(check, "twelve are there: " + name, full, call, NEVER);
    }

    private static void due(Check check, String name, Cocite x, Call call, int... papers) {
        for (int paper : papers) {
            check.due(name.replace("?", Integer.toString(paper)), Check.NO_SUCH_ELEMENT, () -> call.of(x, paper));
        }
    }
}
