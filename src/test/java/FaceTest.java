import java.lang.reflect.Constructor;
import java.lang.reflect.Field;
import java.lang.reflect.Method;
import java.lang.reflect.Modifier;
import java.util.Arrays;
import java.util.List;
import java.util.TreeSet;
import java.util.stream.Collectors;

/** The class shows the document's face, with its throws clauses in their order, and nothing else. */
public final class FaceTest {
    private static final Check CHECK = new Check();
    private static final String NO_SUCH = " throws NoSuchElementException";
    private static final String ILLEGAL = " throws IllegalArgumentException";
    private static final String[] FACE = {
        "int come(int, int)" + ILLEGAL + ", IllegalStateException",
        "int withdraw(int)" + NO_SUCH,
        "int papers()",
        "int references(int)" + NO_SUCH,
        "int citing(int)" + NO_SUCH,
        "int shared(int, int)" + NO_SUCH,
        "int joint(int, int)" + NO_SUCH,
        "int totalAnew()",
        "int total()",
        "int likenessNumerator(int, int)" + NO_SUCH,
        "int likenessDenominator(int, int)" + NO_SUCH,
        "int fieldOf(int)" + NO_SUCH,
        "int fields()",
        "int gain(int, int)" + NO_SUCH + ", IllegalArgumentException",
        "int split(int)" + NO_SUCH,
        "int count(int, int)" + NO_SUCH,
        "int ways()",
        "int mainLength()",
        "int mainAt(int) throws IndexOutOfBoundsException",
        "long mainSum()",
        "int rise(int, int)" + NO_SUCH + ", IllegalArgumentException",
        "int riser(int)" + ILLEGAL,
        "int heir(int)" + NO_SUCH,
    };

    public static void main(String[] args) {
        TreeSet<String> wanted = new TreeSet<>(Arrays.asList(FACE));
        TreeSet<String> publicNames = new TreeSet<>();
        for (Method method : Cocite.class.getDeclaredMethods()) {
            if (!Modifier.isPrivate(method.getModifiers())) {
                CHECK.due("the document has " + told(method), 1, () -> wanted.remove(told(method)) ? 1 : 0);
                publicNames.add(method.getName());
            }
        }
        CHECK.due("methods that are missing: " + wanted, 0, wanted::size);
        for (Method method : Cocite.class.getDeclaredMethods()) {
            if (Modifier.isPrivate(method.getModifiers())) {
                CHECK.due("private " + told(method) + " bears a public name", 0,
                        () -> publicNames.contains(method.getName()) ? 1 : 0);
            }
        }
        for (Field field : Cocite.class.getDeclaredFields()) {
            boolean shown = !Modifier.isPrivate(field.getModifiers());
            CHECK.due("field " + field.getName() + " is shown", field.getName().equals("NONE") ? 1 : 0, () -> shown ? 1 : 0);
        }
        constantsAreShown();
        for (Class<?> inside : Cocite.class.getDeclaredClasses()) {
            boolean hidden = (inside.getModifiers() & (Modifier.PUBLIC | Modifier.PROTECTED)) == 0;
            CHECK.due("class " + inside.getSimpleName() + " is hidden", 1, () -> hidden ? 1 : 0);
        }
        Constructor<?>[] constructors = Cocite.class.getDeclaredConstructors();
        CHECK.due("constructors", 1, () -> constructors.length);
        CHECK.due("the constructor is public", 1, () -> Modifier.isPublic(constructors[0].getModifiers()) ? 1 : 0);
        CHECK.due("the class is public and final", Modifier.PUBLIC | Modifier.FINAL, Cocite.class::getModifiers);
        CHECK.end("FaceTest");
    }

    /** "public static final int NONE = -1;" */
    private static void constantsAreShown() {
        List<String> constants = Arrays.stream(Cocite.class.getFields()).map(Field::toString).toList();
        CHECK.due("constants: " + constants, 1,
                () -> constants.equals(List.of("public static final int Cocite.NONE")) ? 1 : 0);
        CHECK.due("NONE", -1, () -> Cocite.NONE);
        CHECK.due("the constructor has parameters", 0, () -> Cocite.class.getConstructors()[0].getParameterCount());
        CHECK.due("the constructor throws", 0, () -> Cocite.class.getConstructors()[0].getExceptionTypes().length);
    }

    private static String told(Method method) {
        return (Modifier.isPublic(method.getModifiers()) ? "" : "hidden ") + method.getReturnType().getSimpleName()
                + " " + method.getName() + "(" + names(method.getParameterTypes()) + ")"
                + (method.getExceptionTypes().length == 0 ? "" : " throws " + names(method.getExceptionTypes()));
    }

    private static String names(Class<?>[] types) {
        return Arrays.stream(types).map(Class::getSimpleName).collect(Collectors.joining(", "));
    }
}
