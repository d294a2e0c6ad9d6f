import java.lang.reflect.Constructor;
import java.lang.reflect.Field;
import java.lang.reflect.Method;
import java.lang.reflect.Modifier;
import java.util.ArrayList;
import java.util.Collections;
import java.util.List;
import java.util.TreeSet;

/** The public face: the document's members with their exceptions, and no others. */
final class FaceTest {
    private static final String[] DUE = {
        "int ache(int) IndexOutOfBoundsException",
        "int addCustomer(int) IllegalArgumentException IllegalStateException",
        "int addedTotal()",
        "int advance(int) IllegalArgumentException",
        "int callNext() NoSuchElementException",
        "int calledAhead(int) IndexOutOfBoundsException",
        "int calledAheadByPositions(int) IndexOutOfBoundsException",
        "float calmShare() ArithmeticException",
        "int closeWindow(int) IndexOutOfBoundsException IllegalStateException",
        "int customerAtPosition(int) IndexOutOfBoundsException",
        "int customerAtWindow(int) IndexOutOfBoundsException NoSuchElementException",
        "int customerBySighs(int) NoSuchElementException",
        "int customerByWaitingTime(int) NoSuchElementException",
        "int customerCount()",
        "int errorPosition() NoSuchElementException",
        "int failedCommand() NoSuchElementException",
        "int inversions()",
        "int inversionsByBubbleSort()",
        "boolean isCalled(int) IndexOutOfBoundsException",
        "boolean isConsistent()",
        "boolean isSitting(int) IndexOutOfBoundsException",
        "double meanPatience() ArithmeticException",
        "int minute()",
        "int minutesUntilWindow(int) IndexOutOfBoundsException NoSuchElementException",
        "int openWindow(int,int,int) IndexOutOfBoundsException IllegalArgumentException IllegalStateException",
        "int openingTimeLeft(int) IndexOutOfBoundsException",
        "char outputAt(int) IndexOutOfBoundsException",
        "int pace(int) IndexOutOfBoundsException IllegalStateException",
        "int patience(int) IndexOutOfBoundsException",
        "int patienceAfter(int,int) IndexOutOfBoundsException IllegalArgumentException NoSuchElementException",
        "int position(int) IndexOutOfBoundsException NoSuchElementException",
        "int queueLength()",
        "int remove(int) IndexOutOfBoundsException",
        "int renderQueue()",
        "int renderWindows()",
        "int restore() IllegalStateException",
        "int runScript() IllegalArgumentException IllegalStateException",
        "int save()",
        "int servedTicket(int) NoSuchElementException",
        "int servedTotal()",
        "int servedWaitingTime(int) NoSuchElementException",
        "int serviceTimeLeft(int) IndexOutOfBoundsException NoSuchElementException",
        "int sighTotal()",
        "int sighs(int) IndexOutOfBoundsException",
        "int sighsWithin(int) IllegalArgumentException",
        "int sit(int) IndexOutOfBoundsException IllegalStateException UnsupportedOperationException",
        "int standUp(int) IndexOutOfBoundsException IllegalStateException",
        "int swap(int,int) IndexOutOfBoundsException IllegalArgumentException IllegalStateException"
            + " UnsupportedOperationException",
        "int ticket(int) IndexOutOfBoundsException",
        "int type(char) IllegalArgumentException IllegalStateException",
        "int undo() NoSuchElementException",
        "int waitingTime(int) IndexOutOfBoundsException",
        "int walkedOutTotal()",
        "int windowOfCustomer(int) IndexOutOfBoundsException NoSuchElementException",
    };

    private FaceTest() {
    }

    static void run() {
        Class<?> face = WaitingRoomSimulation.class;
        Check.same("face: public and final", Modifier.isPublic(face.getModifiers())
                && Modifier.isFinal(face.getModifiers()), true);
        methods(face);
        Constructor<?>[] constructors = face.getDeclaredConstructors();
        Check.same("face: one constructor", constructors.length, 1);
        Check.same("face: it is public", Modifier.isPublic(constructors[0].getModifiers()), true);
        fields(face);
    }

    private static void methods(Class<?> face) {
        TreeSet<String> names = new TreeSet<>();
        List<Method> hidden = new ArrayList<>();
        TreeSet<String> got = new TreeSet<>();
        for (Method method : face.getDeclaredMethods()) {
            if (Modifier.isPrivate(method.getModifiers()) || method.isSynthetic()) {
                hidden.add(method);
            } else {
                names.add(method.getName());
                got.add(describe(method));
            }
        }
        for (Class<?> inner : face.getDeclaredClasses()) {
            Collections.addAll(hidden, inner.getDeclaredMethods());
        }
        TreeSet<String> due = new TreeSet<>();
        Collections.addAll(due, DUE);
        Check.same("face: methods", got.toString(), due.toString());
        for (Method method : hidden) {
            Check.same("face: a name used within: " + method.getName(), names.contains(method.getName()), false);
        }
    }

    private static String describe(Method method) {
        StringBuilder text = new StringBuilder();
        text.append(method.getReturnType().getSimpleName()).append(' ').append(method.getName()).append('(');
        String separator = "";
        for (Class<?> parameter : method.getParameterTypes()) {
            text.append(separator).append(parameter.getSimpleName());
            separator = ",";
        }
        text.append(')');
        for (Class<?> exception : method.getExceptionTypes()) {
            text.append(' ').append(exception.getSimpleName());
        }
        return text.toString();
    }

    private static void fields(Class<?> face) {
        List<Class<?>> classes = new ArrayList<>();
        classes.add(face);
        Collections.addAll(classes, face.getDeclaredClasses());
        for (Class<?> owner : classes) {
            for (Field field : owner.getDeclaredFields()) {
                int modifiers = field.getModifiers();
                Check.same("face: a static field is final: " + field.getName(),
                        Modifier.isStatic(modifiers) && !Modifier.isFinal(modifiers), false);
                if (owner == face) {
                    Check.same("face: a private field: " + field.getName(), Modifier.isPrivate(modifiers), true);
                }
            }
        }
    }
}
