import java.lang.reflect.Constructor;
import java.lang.reflect.Field;
import java.lang.reflect.Method;
import java.lang.reflect.Modifier;
import java.util.ArrayList;
import java.util.List;
import java.util.TreeSet;

/** The public face is that of the document, to the letter, and there is nothing beside it. */
public final class FaceTests {
    private static final Checks CHECKS = new Checks();
    private static final String PLACE = "IndexOutOfBoundsException";
    private static final String ARGUMENT = "IllegalArgumentException";
    private static final String STATE = "IllegalStateException";

    private static final List<String> METHODS = List.of(
        "int give(int, int) " + PLACE + " " + STATE,
        "int deal(int) " + ARGUMENT + " " + STATE,
        "int begin(int) " + PLACE + " " + STATE,
        "int gather() " + STATE,
        "int lay(int, int, int) " + PLACE + " " + ARGUMENT + " " + STATE,
        "int pass(int) " + PLACE + " " + STATE,
        "int clock(int) " + ARGUMENT + " " + STATE,
        "int tick(int) " + ARGUMENT + " " + STATE,
        "int set(int) " + ARGUMENT,
        "int append(int) " + ARGUMENT + " " + STATE,
        "int clearBuffer()",
        "int firstError(int) " + ARGUMENT,
        "int play() " + ARGUMENT,
        "int giveAll() " + ARGUMENT,
        "int keep()",
        "int goBack() " + STATE,
        "int undo() " + STATE,
        "int tile(int, int) " + PLACE + " " + ARGUMENT,
        "int tileOf(int, int) " + PLACE,
        "int chain(int, int) " + PLACE + " " + ARGUMENT,
        "int hand(int, int) " + PLACE + " " + ARGUMENT,
        "int count(int) " + ARGUMENT,
        "int why(int, int, int) " + PLACE + " " + ARGUMENT,
        "int deals(int, int) " + PLACE + " " + ARGUMENT,
        "int having(int, int, int) " + PLACE,
        "int sure(int, int) " + PLACE,
        "double likely(int, int, int) " + PLACE,
        "int ifLaid(int, int, int, int) " + PLACE + " " + ARGUMENT,
        "int open(int) " + ARGUMENT,
        "float meanPips()",
        "long digest()");

    public static void main(String[] args) {
        Class<?> face = ClockDominoes.class;
        CHECKS.same("the constant", ClockDominoes.NONE, -1);
        CHECKS.same("the class", Modifier.toString(face.getModifiers()), "public final");
        CHECKS.same("above it", face.getSuperclass().getName() + face.getInterfaces().length, "java.lang.Object0");
        methods(face);
        others(face);
        CHECKS.end();
    }

    private static void methods(Class<?> face) {
        List<String> told = new ArrayList<>();
        for (Method method : face.getDeclaredMethods()) {
            if (!Modifier.isPrivate(method.getModifiers())) {
                CHECKS.same("how " + method.getName() + " is", Modifier.toString(method.getModifiers()), "public");
                told.add(told(method));
            }
        }
        CHECKS.same("the methods", new TreeSet<>(told), new TreeSet<>(METHODS));
        CHECKS.same("how many methods", told.size(), METHODS.size());
    }

    private static String told(Method method) {
        StringBuilder text = new StringBuilder(method.getReturnType().getName());
        text.append(' ').append(method.getName()).append('(');
        for (int place = 0; place < method.getParameterCount(); place++) {
            text.append(place > 0 ? ", " : "").append(method.getParameterTypes()[place].getName());
        }
        text.append(')');
        for (Class<?> thrown : method.getExceptionTypes()) {
            text.append(' ').append(thrown.getSimpleName());
        }
        return text.toString();
    }

    private static void others(Class<?> face) {
        Constructor<?>[] constructors = face.getDeclaredConstructors();
        CHECKS.same("constructors", constructors.length, 1);
        CHECKS.same("the constructor", constructors[0].toString(), "public ClockDominoes()");
        for (Field field : face.getDeclaredFields()) {
            boolean constant = field.getName().equals("NONE");
            String modifiers = Modifier.toString(field.getModifiers());
            CHECKS.same("field " + field.getName(), modifiers.startsWith("public"), constant);
            CHECKS.same("field " + field.getName(), modifiers.startsWith("private"), !constant);
        }
        for (Class<?> inner : face.getDeclaredClasses()) {
            int modifiers = inner.getModifiers();
            CHECKS.same("class " + inner.getName(), Modifier.isStatic(modifiers), true);
            CHECKS.same("class " + inner.getName(), Modifier.isPublic(modifiers) || Modifier.isProtected(modifiers), false);
        }
    }
}
