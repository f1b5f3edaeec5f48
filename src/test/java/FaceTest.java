import java.lang.reflect.Constructor;
import java.lang.reflect.Field;
import java.lang.reflect.Method;
import java.lang.reflect.Modifier;
import java.util.Set;
import java.util.TreeSet;

/** The public face is the document's, with nothing beside it (rule 1 of LANGUAGE.md). */
public final class FaceTest {
    private static final String NO_SUCH = " NoSuchElementException";
    private static final String ARGUMENT = " IllegalArgumentException";
    private static final String STATE = " IllegalStateException";
    private static final Set<String> DUE = Set.of(
            "int feed(int,int,int,int,int)", "int text(int)" + ARGUMENT, "int fault()",
            "int strike(int)" + NO_SUCH + STATE, "int pass()" + STATE, "int rule(int,int)" + ARGUMENT,
            "int order(int,int)" + ARGUMENT, "int undo()", "int told(int)" + ARGUMENT,
            "int juror(int,int)" + NO_SUCH + ARGUMENT, "int seat(int,boolean)" + ARGUMENT, "int turn(int)" + NO_SUCH,
            "int worth(int)" + ARGUMENT, "int value(int)" + ARGUMENT, "int best()", "int line(int)" + ARGUMENT,
            "int cost(int)" + NO_SUCH + STATE, "int states()", "int more(int,boolean)" + ARGUMENT,
            "int other(int,int)" + NO_SUCH + ARGUMENT, "int without(int,int)" + NO_SUCH + ARGUMENT + STATE,
            "int plain(int,int)" + ARGUMENT, "int once(int)" + ARGUMENT + STATE, "int count(int,int)" + ARGUMENT,
            "long print()", "int status(int)");

    private FaceTest() {
    }

    public static void main(String[] args) {
        Class<?> face = StrikeBench.class;
        Bench.holds("the class is public and final", face.getModifiers() == (Modifier.PUBLIC | Modifier.FINAL));
        Bench.due("NONE", -1, () -> StrikeBench.NONE);
        Bench.due("NOBODY", -100000, () -> StrikeBench.NOBODY);
        Set<String> found = new TreeSet<>();
        Set<String> open = new TreeSet<>();
        for (Method method : face.getDeclaredMethods()) {
            if (Modifier.isPublic(method.getModifiers())) {
                found.add(told(method));
                open.add(method.getName());
            }
        }
        Bench.holds("public methods are " + found, found.equals(new TreeSet<>(DUE)));
        for (Method method : face.getDeclaredMethods()) {
            boolean isPrivate = Modifier.isPrivate(method.getModifiers());
            Bench.holds(method + " is neither public nor private", isPrivate || Modifier.isPublic(method.getModifiers()));
            Bench.holds(method + " bears a public one's name", !isPrivate || !open.contains(method.getName()));
        }
        for (Field field : face.getDeclaredFields()) {
            boolean isConstant = field.getName().equals("NONE") || field.getName().equals("NOBODY");
            int due = Modifier.PUBLIC | Modifier.STATIC | Modifier.FINAL;
            Bench.holds(field + " is not as it should be",
                    isConstant ? field.getModifiers() == due : Modifier.isPrivate(field.getModifiers()));
        }
        Constructor<?>[] constructors = face.getDeclaredConstructors();
        Bench.holds("one constructor, public, of nothing", constructors.length == 1
                && constructors[0].getParameterCount() == 0 && Modifier.isPublic(constructors[0].getModifiers()));
        for (Class<?> inside : face.getDeclaredClasses()) {
            Bench.holds(inside + " is static and not public", Modifier.isStatic(inside.getModifiers())
                    && !Modifier.isPublic(inside.getModifiers()));
        }
        Bench.end();
    }

    private static String told(Method method) {
        StringBuilder told = new StringBuilder(method.getReturnType().getSimpleName());
        told.append(' ').append(method.getName()).append('(');
        for (Class<?> type : method.getParameterTypes()) {
            told.append(told.charAt(told.length() - 1) == '(' ? "" : ",").append(type.getSimpleName());
        }
        told.append(')');
        for (Class<?> type : method.getExceptionTypes()) {
            told.append(' ').append(type.getSimpleName());
        }
        return told.toString();
    }
}
