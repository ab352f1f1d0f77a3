import java.lang.reflect.Constructor;
import java.lang.reflect.Field;
import java.lang.reflect.Method;
import java.lang.reflect.Modifier;
import java.util.Arrays;
import java.util.Set;
import java.util.TreeSet;

/** The class has the face of the document and nothing beside it. */
public final class FaceTest {
    private static final String IAE = "IllegalArgumentException";
    private static final String ISE = "IllegalStateException";
    private static final String NSE = "NoSuchElementException";
    private static final String IOB = "IndexOutOfBoundsException";
    private static final String UOE = "UnsupportedOperationException";
    private static final String AE = "ArithmeticException";

    private static final String[] FACE = {
        "int addLane(int,boolean) " + IAE + " " + ISE,
        "int addDoor(char) " + IAE + " " + ISE,
        "int setTolerance(int) " + IAE,
        "int setCharges(int,int,int,int) " + IAE,
        "int book(int,char,int) " + IAE + " " + ISE,
        "char arrive(int,int) " + NSE + " " + IOB + " " + ISE + " " + UOE,
        "char state(int) " + NSE,
        "char punctuality(int) " + NSE + " " + ISE,
        "int nextBooked() " + NSE,
        "int shift(int,int) " + NSE + " " + IOB + " " + ISE + " " + UOE,
        "int dock(int,int) " + NSE + " " + IOB + " " + ISE + " " + UOE,
        "int leave(int) " + NSE + " " + ISE + " " + UOE,
        "int laneOf(int) " + NSE + " " + ISE,
        "int blockers(int) " + NSE + " " + ISE,
        "int trailerAt(int,int) " + IOB + " " + NSE,
        "int freeDoor(int) " + NSE + " " + ISE,
        "int fewestMoves(int) " + NSE + " " + ISE + " " + UOE,
        "int fewestByOrders(int) " + NSE + " " + ISE + " " + UOE,
        "int pass(int) " + IAE,
        "int time()",
        "int waited(int) " + NSE + " " + ISE,
        "int charge(int) " + NSE + " " + ISE,
        "int chargeByHours(int) " + NSE + " " + ISE,
        "int moves()",
        "long charged()",
        "float usedShare() " + AE,
        "double meanWaiting() " + AE,
    };

    private static String describe(Method method) {
        StringBuilder text = new StringBuilder();
        text.append(method.getReturnType().getSimpleName()).append(' ').append(method.getName()).append('(');
        String comma = "";
        for (Class<?> type : method.getParameterTypes()) {
            text.append(comma).append(type.getSimpleName());
            comma = ",";
        }
        text.append(')');
        for (Class<?> type : method.getExceptionTypes()) {
            text.append(' ').append(type.getSimpleName());
        }
        return text.toString();
    }

    public static void main(String[] args) {
        Check check = new Check();
        Class<?> type = DockyardSlots.class;
        check.due("modifiers of the class", Modifier.PUBLIC | Modifier.FINAL, () -> type.getModifiers());

        Set<String> open = new TreeSet<>();
        Set<String> openNames = new TreeSet<>();
        Set<String> hiddenNames = new TreeSet<>();
        for (Method method : type.getDeclaredMethods()) {
            if (Modifier.isPrivate(method.getModifiers())) {
                hiddenNames.add(method.getName());
            } else {
                open.add(describe(method));
                openNames.add(method.getName());
                check.due("modifiers of " + method.getName(), Modifier.PUBLIC, () -> method.getModifiers());
            }
        }
        check.due("the methods", new TreeSet<>(Arrays.asList(FACE)), () -> open);

        for (Class<?> inner : type.getDeclaredClasses()) {
            check.due("static " + inner.getSimpleName(), true, () -> Modifier.isStatic(inner.getModifiers()));
            for (Method method : inner.getDeclaredMethods()) {
                hiddenNames.add(method.getName());
            }
        }
        hiddenNames.retainAll(openNames);
        check.due("private methods with a public name", "[]", () -> hiddenNames);

        Constructor<?>[] constructors = type.getDeclaredConstructors();
        check.due("constructors", 1, () -> constructors.length);
        check.due("constructor", "public DockyardSlots()", () -> constructors[0].toString());
        for (Field field : type.getDeclaredFields()) {
            int modifiers = field.getModifiers();
            check.due("private " + field.getName(), true, () -> Modifier.isPrivate(modifiers));
            check.due("final if static: " + field.getName(), true,
                () -> !Modifier.isStatic(modifiers) || Modifier.isFinal(modifiers));
        }
        check.end();
    }
}
