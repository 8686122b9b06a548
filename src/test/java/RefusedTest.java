import java.util.ArrayList;
import java.util.List;
import java.util.function.Supplier;

/** "a call that throws changes nothing": for each call that can be refused, told by all other calls. */
public final class RefusedTest {
    private static final Check CHECK = new Check();
    // With the 14 calls at most that make a literature, an object is asked less than 512 times.
    private static final int QUESTIONS_OF_AN_OBJECT = 450;
    private static final int REFUSED_OF_AN_OBJECT = 36;
    private static final int[] NO_YEARS = {Integer.MIN_VALUE, -1, 100, Integer.MAX_VALUE};
    private static final int[] NO_PLACES = {Integer.MIN_VALUE, -1, 12, Integer.MAX_VALUE};

    interface Question {
        long of(Cocite x);
    }

    record Call(String name, Question question) {
    }

    /** Calls of one object; in a row if some of them change it. */
    record Part(List<Call> calls, boolean inARow) {
    }

    record Refused(String name, long due, Question question) {
    }

    /** Papers, how many have come, the year of the last, one that is there and one of no field, if any. */
    record Literature(String name, Supplier<Cocite> made, int come, int year, int there, int noField, int[] gone) {
    }

    public static void main(String[] args) {
        List<Part> asked = new ArrayList<>();
        inParts(asked, answersOfCalls());
        asked.add(new Part(whichYearsAndNumbersCome(), true));
        asked.add(new Part(whichReferencesCome(), true));
        asked.add(new Part(whichCanGo(), true));
        for (Literature literature : literatures()) {
            changesNothing(literature, asked);
        }
        CHECK.end("RefusedTest");
    }

    private static List<Literature> literatures() {
        return List.of(
                new Literature("new", Cocite::new, 0, 0, -1, -1, new int[] {0}),
                new Literature("two", () -> Papers.ofYears(5, 0, 9, 1), 2, 9, 0, -1, new int[] {2}),
                new Literature("all gone", RefusedTest::allGone, 3, 40, -1, -1, new int[] {0, 2, 3}),
                new Literature("some gone", RefusedTest::someGone, 8, 31, 3, 6, new int[] {2, 7, 8}),
                new Literature("full", RefusedTest::fullOfYears, 12, 98, 1, 11, new int[] {}),
                new Literature("full, some gone", RefusedTest::fullWithSomeGone, 12, 98, 1, 10, new int[] {0, 11}));
    }

    private static Cocite allGone() {
        Cocite x = Papers.ofYears(0, 0, 3, 1, 40, 3);
        x.withdraw(0);
        x.withdraw(1);
        x.withdraw(2);
        return x;
    }

    /** The one that came last has gone, and one in the midst; {0, 1}, {3, 4, 5, 6} are fields. */
    private static Cocite someGone() {
        Cocite x = Papers.ofYears(0, 0, 0, 0, 2, 3, 2, 3, 3, 3, 30, 11, 30, 3, 31, 127);
        x.withdraw(2);
        x.withdraw(7);
        return x;
    }

    /** With a split that pays. */
    private static Cocite fullOfYears() {
        return Papers.ofYears(0, 0, 1, 1, 1, 3, 2, 3, 3, 3, 50, 22, 51, 35, 51, 2, 51, 15, 52, 451, 97, 313, 98, 1091);
    }

    private static Cocite fullWithSomeGone() {
        Cocite x = fullOfYears();
        x.withdraw(11);
        x.withdraw(0);
        return x;
    }

    private static void changesNothing(Literature literature, List<Part> asked) {
        List<List<Long>> due = new ArrayList<>();
        for (Part part : asked) {
            due.add(part.inARow ? answersInARow(literature, part.calls) : answersOfTheUntouched(literature, part.calls));
        }
        List<Refused> refused = refusedCalls(literature);
        for (Refused one : refused) {
            for (int part = 0; part < asked.size(); part++) {
                Cocite x = literature.made.get();
                isRefused(literature, x, one);
                answersAsBefore(literature.name + ", behind " + one.name, x, asked.get(part).calls, due.get(part));
            }
        }
        allOfThemChangeNothing(literature, refused, asked, due);
    }

    private static List<Long> answersInARow(Literature literature, List<Call> calls) {
        Cocite x = literature.made.get();
        return calls.stream().map(call -> Check.answer(() -> call.question.of(x))).toList();
    }

    /** Behind each question that is refused the object is another one, which has refused nothing. */
    private static List<Long> answersOfTheUntouched(Literature literature, List<Call> calls) {
        List<Long> answers = new ArrayList<>();
        Cocite x = literature.made.get();
        for (Call call : calls) {
            Cocite asked = x;
            long answer = Check.answer(() -> call.question.of(asked));
            answers.add(answer);
            x = Check.isThrown(answer) ? literature.made.get() : x;
        }
        return answers;
    }

    private static void isRefused(Literature literature, Cocite x, Refused one) {
        CHECK.due(literature.name + ": " + one.name, one.due, () -> one.question.of(x));
    }

    private static void answersAsBefore(String name, Cocite x, List<Call> calls, List<Long> due) {
        for (int call = 0; call < calls.size(); call++) {
            Question question = calls.get(call).question;
            CHECK.due(name + ": " + calls.get(call).name, due.get(call), () -> question.of(x));
        }
    }

    /** The refused calls one behind the other, as many as an object has calls for. */
    private static void allOfThemChangeNothing(Literature literature, List<Refused> refused,
            List<Part> asked, List<List<Long>> due) {
        int from = 0;
        while (from < refused.size()) {
            int to = Math.min(from + REFUSED_OF_AN_OBJECT, refused.size());
            for (int part = 0; part < asked.size(); part++) {
                Cocite x = literature.made.get();
                for (Refused one : refused.subList(from, to)) {
                    isRefused(literature, x, one);
                }
                answersAsBefore(literature.name + ", behind many", x, asked.get(part).calls, due.get(part));
            }
            from = to;
        }
    }

    private static List<Refused> refusedCalls(Literature literature) {
        List<Refused> calls = new ArrayList<>();
        refusedToCome(literature, calls);
        for (int paper : new int[] {Integer.MIN_VALUE, -1, 12, 32}) {
            refusedForAPaper(literature, paper, calls);
        }
        for (int paper : literature.gone) {
            refusedForAPaper(literature, paper, calls);
        }
        for (int place : NO_PLACES) {
            refuse(calls, "mainAt(" + place + ")", Check.INDEX_OUT_OF_BOUNDS, x -> x.mainAt(place));
        }
        for (int year : NO_YEARS) {
            refuse(calls, "riser(" + year + ")", Check.ILLEGAL_ARGUMENT, x -> x.riser(year));
        }
        if (literature.there >= 0) {
            refusedForOneThatIsThere(literature.there, calls);
        }
        if (literature.noField >= 0) {
            refusedForNoField(literature.noField, calls);
        }
        return calls;
    }

    private static void refuse(List<Refused> calls, String name, long due, Question question) {
        calls.add(new Refused(name, due, question));
    }

    private static void refusedToCome(Literature literature, List<Refused> calls) {
        int latest = literature.year;
        for (int year : new int[] {Integer.MIN_VALUE, -1, latest - 1, 100, Integer.MAX_VALUE}) {
            refuse(calls, "come(" + year + ", 0)", Check.ILLEGAL_ARGUMENT, x -> x.come(year, 0));
            refuse(calls, "come(" + year + ", 4096)", Check.ILLEGAL_ARGUMENT, x -> x.come(year, 4096));
        }
        for (int references : new int[] {4096, 1 << literature.come, -1, Integer.MIN_VALUE}) {
            refuse(calls, "come(" + latest + ", " + references + ")", Check.ILLEGAL_ARGUMENT,
                    x -> x.come(latest, references));
            refuse(calls, "come(99, " + references + ")", Check.ILLEGAL_ARGUMENT, x -> x.come(99, references));
        }
        for (int gone : literature.gone) {
            refuse(calls, "come(99, a reference to " + gone + ")", Check.ILLEGAL_ARGUMENT, x -> x.come(99, 1 << gone));
        }
        if (literature.come == 12) {
            refuse(calls, "come(" + latest + ", 0)", Check.ILLEGAL_STATE, x -> x.come(latest, 0));
            refuse(calls, "come(99, 0)", Check.ILLEGAL_STATE, x -> x.come(99, 0));
            refuse(calls, "come(99, 2)", Check.ILLEGAL_STATE, x -> x.come(99, 2));
        }
    }

    private static void refusedForAPaper(Literature literature, int paper, List<Refused> calls) {
        int other = Math.max(0, literature.there);
        String two = "(" + paper + ", " + other + ")";
        String twoTurned = "(" + other + ", " + paper + ")";
        long due = Check.NO_SUCH_ELEMENT;
        refuse(calls, "withdraw(" + paper + ")", due, x -> x.withdraw(paper));
        refuse(calls, "references(" + paper + ")", due, x -> x.references(paper));
        refuse(calls, "citing(" + paper + ")", due, x -> x.citing(paper));
        refuse(calls, "shared" + two, due, x -> x.shared(paper, other));
        refuse(calls, "shared" + twoTurned, due, x -> x.shared(other, paper));
        refuse(calls, "joint" + two, due, x -> x.joint(paper, other));
        refuse(calls, "joint" + twoTurned, due, x -> x.joint(other, paper));
        refuse(calls, "likenessNumerator" + two, due, x -> x.likenessNumerator(paper, other));
        refuse(calls, "likenessNumerator" + twoTurned, due, x -> x.likenessNumerator(other, paper));
        refuse(calls, "likenessDenominator" + two, due, x -> x.likenessDenominator(paper, other));
        refuse(calls, "likenessDenominator" + twoTurned, due, x -> x.likenessDenominator(other, paper));
        refuse(calls, "fieldOf(" + paper + ")", due, x -> x.fieldOf(paper));
        refuse(calls, "gain" + two, due, x -> x.gain(paper, other));
        refuse(calls, "gain" + twoTurned, due, x -> x.gain(other, paper));
        refuse(calls, "gain(" + paper + ", itself)", due, x -> x.gain(paper, paper));
        refuse(calls, "split(" + paper + ")", due, x -> x.split(paper));
        refuse(calls, "count" + two, due, x -> x.count(paper, other));
        refuse(calls, "count" + twoTurned, due, x -> x.count(other, paper));
        refuse(calls, "rise(" + paper + ", 3)", due, x -> x.rise(paper, 3));
        refuse(calls, "rise(" + paper + ", 100)", due, x -> x.rise(paper, 100));
        refuse(calls, "heir(" + paper + ")", due, x -> x.heir(paper));
    }

    private static void refusedForOneThatIsThere(int paper, List<Refused> calls) {
        for (int year : NO_YEARS) {
            refuse(calls, "rise(" + paper + ", " + year + ")", Check.ILLEGAL_ARGUMENT, x -> x.rise(paper, year));
        }
        refuse(calls, "gain of a field and itself", Check.ILLEGAL_ARGUMENT,
                x -> x.gain(x.fieldOf(paper), x.fieldOf(paper)));
        refuse(calls, "count(" + paper + ", itself)", Check.NO_SUCH_ELEMENT, x -> x.count(paper, paper));
    }

    private static void refusedForNoField(int paper, List<Refused> calls) {
        refuse(calls, "gain(" + paper + ", another field)", Check.NO_SUCH_ELEMENT, x -> x.gain(paper, x.fieldOf(paper)));
        refuse(calls, "gain(a field, " + paper + ")", Check.NO_SUCH_ELEMENT, x -> x.gain(x.fieldOf(paper), paper));
        refuse(calls, "gain(" + paper + ", itself)", Check.NO_SUCH_ELEMENT, x -> x.gain(paper, paper));
        refuse(calls, "split(" + paper + ")", Check.NO_SUCH_ELEMENT, x -> x.split(paper));
    }

    private static void inParts(List<Part> parts, List<Call> calls) {
        for (int from = 0; from < calls.size(); from += QUESTIONS_OF_AN_OBJECT) {
            int to = Math.min(from + QUESTIONS_OF_AN_OBJECT, calls.size());
            parts.add(new Part(calls.subList(from, to), false));
        }
    }

    private static void ask(List<Call> calls, String name, Question question) {
        calls.add(new Call(name, question));
    }

    /** All questions of all papers, and of some numbers that are none. */
    private static List<Call> answersOfCalls() {
        List<Call> calls = new ArrayList<>();
        ask(calls, "papers()", Cocite::papers);
        ask(calls, "total()", Cocite::total);
        ask(calls, "totalAnew()", Cocite::totalAnew);
        ask(calls, "fields()", Cocite::fields);
        ask(calls, "ways()", Cocite::ways);
        ask(calls, "mainLength()", Cocite::mainLength);
        ask(calls, "mainSum()", Cocite::mainSum);
        for (int number = -1; number <= 12; number++) {
            askOfOne(calls, number);
            for (int other = Math.max(0, number); other < 12; other++) {
                askOfTwo(calls, number, other);
            }
        }
        return calls;
    }

    private static void askOfOne(List<Call> calls, int number) {
        ask(calls, "references(" + number + ")", x -> x.references(number));
        ask(calls, "citing(" + number + ")", x -> x.citing(number));
        ask(calls, "fieldOf(" + number + ")", x -> x.fieldOf(number));
        ask(calls, "split(" + number + ")", x -> x.split(number));
        ask(calls, "mainAt(" + number + ")", x -> x.mainAt(number));
        ask(calls, "heir(" + number + ")", x -> x.heir(number));
        for (int year : new int[] {0, 1, 2, 3, 4, 5, 9, 10, 30, 31, 40, 41, 50, 51, 52, 53, 97, 98, 99}) {
            ask(calls, "rise(" + number + ", " + year + ")", x -> x.rise(number, year));
            if (number == 0) {
                ask(calls, "riser(" + year + ")", x -> x.riser(year));
            }
        }
    }

    private static void askOfTwo(List<Call> calls, int number, int other) {
        String two = "(" + number + ", " + other + ")";
        ask(calls, "shared" + two, x -> x.shared(number, other));
        ask(calls, "joint" + two, x -> x.joint(number, other));
        ask(calls, "likenessNumerator" + two, x -> x.likenessNumerator(number, other));
        ask(calls, "likenessDenominator" + two, x -> x.likenessDenominator(number, other));
        ask(calls, "gain" + two, x -> x.gain(number, other));
        ask(calls, "count(" + other + ", " + number + ")", x -> x.count(other, number));
    }

    /** The first year that is taken is that of the paper before, and the number shows how many have come. */
    private static List<Call> whichYearsAndNumbersCome() {
        List<Call> calls = new ArrayList<>();
        for (int year = 0; year < 100; year++) {
            int coming = year;
            ask(calls, "come(" + year + ", 0)", x -> x.come(coming, 0));
        }
        ask(calls, "papers()", Cocite::papers);
        ask(calls, "ways()", Cocite::ways);
        return calls;
    }

    private static List<Call> whichReferencesCome() {
        List<Call> calls = new ArrayList<>();
        for (int power = 12; power >= 0; power--) {
            int references = 1 << power;
            ask(calls, "come(99, " + references + ")", x -> x.come(99, references));
        }
        for (int number = 0; number < 12; number++) {
            askOfOne(calls, number);
        }
        ask(calls, "total()", Cocite::total);
        ask(calls, "totalAnew()", Cocite::totalAnew);
        return calls;
    }

    private static List<Call> whichCanGo() {
        List<Call> calls = new ArrayList<>();
        for (int number = 0; number < 12; number++) {
            int going = number;
            ask(calls, "withdraw(" + number + ")", x -> x.withdraw(going));
            ask(calls, "papers()", Cocite::papers);
            ask(calls, "total()", Cocite::total);
            ask(calls, "fields()", Cocite::fields);
            ask(calls, "ways()", Cocite::ways);
            ask(calls, "mainSum()", Cocite::mainSum);
        }
        ask(calls, "come(99, 0)", x -> x.come(99, 0));
        return calls;
    }
}
