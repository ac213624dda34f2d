import java.lang.reflect.Constructor;
import java.lang.reflect.Field;
import java.lang.reflect.Method;
import java.lang.reflect.Modifier;
import java.util.Arrays;
import java.util.TreeSet;

/** The class has the face of the document and nothing else that can be seen from outside. */
public final class FaceTest {
    private static final String INDEX = "IndexOutOfBoundsException";
    private static final String ARGUMENT = "IllegalArgumentException";
    private static final String STATE = "IllegalStateException";
    private static final String ELEMENT = "NoSuchElementException";

    private static final String[] FACE = {
        "int setSize(int, int) " + ARGUMENT,
        "int size(int) " + INDEX,
        "int setOutput(int, int) " + INDEX + " " + ARGUMENT,
        "int output(int) " + INDEX,
        "int setNumber(long) " + ARGUMENT,
        "long number()",
        "int append(int) " + ARGUMENT + " " + STATE,
        "int compile() " + ARGUMENT + " ArithmeticException",
        "int error(int) " + INDEX,
        "int mirror()",
        "int complement()",
        "long leastNumber()",
        "int compose() " + STATE,
        "int setWord(int, int, int) " + INDEX + " " + ARGUMENT,
        "int wordLength(int) " + INDEX,
        "int wordIndex(int) " + INDEX,
        "int cell(int, int) " + INDEX,
        "int apply(int, boolean) " + INDEX + " " + STATE,
        "int orbit(int, int) " + INDEX + " " + STATE,
        "int preimageCount(int, boolean) " + INDEX,
        "int preimage(int, boolean, int, int) " + INDEX + " " + STATE + " " + ELEMENT,
        "int preimagesBetween(int, int, int) " + INDEX,
        "int wordsWith(int, int) " + ARGUMENT,
        "int mostPreimages(int) " + ARGUMENT,
        "int fixedWords(int) " + ARGUMENT,
        "int edge(int, int, int) " + INDEX,
        "int subsets()",
        "int orphans(int) " + ARGUMENT,
        "int shortestOrphan(int) " + INDEX + " " + ELEMENT + " " + STATE,
        "boolean has(int) " + INDEX,
        "int cyclicPairs()",
        "int inverse(int) " + INDEX + " " + ELEMENT,
        "int inverseOutput(int) " + ELEMENT + " " + INDEX,
        "long save()",
        "long restore() " + STATE,
    };

    public static void main(String[] args) {
        Class<?> type = PreimageAnalyzer.class;
        Check.due("the modifiers", Modifier.PUBLIC | Modifier.FINAL, type.getModifiers());
        methods(type);
        constructors(type);
        for (Field field : type.getDeclaredFields()) {
            Check.due("private " + field, true, Modifier.isPrivate(field.getModifiers()));
        }
        for (Class<?> inner : type.getDeclaredClasses()) {
            Check.due("static " + inner, true, Modifier.isStatic(inner.getModifiers()));
            Check.due("not public " + inner, false,
                    Modifier.isPublic(inner.getModifiers()) || Modifier.isProtected(inner.getModifiers()));
        }
        Check.end();
    }

    private static void methods(Class<?> type) {
        TreeSet<String> found = new TreeSet<>();
        TreeSet<String> names = new TreeSet<>();
        for (Method method : type.getDeclaredMethods()) {
            if (Modifier.isPublic(method.getModifiers())) {
                found.add(textOf(method));
                names.add(method.getName());
                Check.due("an object's method " + method, false, Modifier.isStatic(method.getModifiers()));
            }
        }
        Check.due("the face", new TreeSet<>(Arrays.asList(FACE)).toString(), found.toString());
        hidden(type, names);
        for (Class<?> inner : type.getDeclaredClasses()) {
            for (Method method : inner.getDeclaredMethods()) {
                Check.due("the name of " + method, false, names.contains(method.getName()));
            }
        }
    }

    private static void hidden(Class<?> type, TreeSet<String> names) {
        for (Method method : type.getDeclaredMethods()) {
            if (!Modifier.isPublic(method.getModifiers())) {
                Check.due("private " + method, true, Modifier.isPrivate(method.getModifiers()));
                Check.due("the name of " + method, false, names.contains(method.getName()));
            }
        }
    }

    private static String textOf(Method method) {
        StringBuilder text = new StringBuilder();
        text.append(method.getReturnType()).append(' ').append(method.getName()).append('(');
        String comma = "";
        for (Class<?> parameter : method.getParameterTypes()) {
            text.append(comma).append(parameter);
            comma = ", ";
        }
        text.append(')');
        for (Class<?> exception : method.getExceptionTypes()) {
            text.append(' ').append(exception.getSimpleName());
        }
        return text.toString();
    }

    private static void constructors(Class<?> type) {
        Constructor<?>[] all = type.getDeclaredConstructors();
        Check.due("the number of constructors", 1, all.length);
        Check.due("public", true, Modifier.isPublic(all[0].getModifiers()));
        Check.due("its parameters", 0, all[0].getParameterCount());
    }
}
