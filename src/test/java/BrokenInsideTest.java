import java.lang.reflect.Array;
import java.lang.reflect.Field;
import java.util.List;

/**
 * Promise 31 once more: no run of calls can make a planner unsafe, so this one breaks the state inside by
 * the names of the private fields, and must follow when these change.
 */
public final class BrokenInsideTest {
    public static void main(String[] args) throws ReflectiveOperationException {
        Checks checks = new Checks();
        misplaced(checks);
        notApart(checks);
        tooShort(checks);
        awayTwice(checks);
        waitsInVain(checks);
        checks.end();
    }

    private static void misplaced(Checks checks) throws ReflectiveOperationException {
        LoggiaPlanner x = Museums.small();
        set(room(x, 1), "light", 31);
        checks.due("31 a work does not stand the light", x.isSafe(), false);
        set(room(x, 1), "light", 30);
        checks.due("31 it stands this", x.isSafe(), true);
    }

    private static void notApart(Checks checks) throws ReflectiveOperationException {
        LoggiaPlanner x = Museums.small();
        Object kinds = get(get(x, "separations"), "kinds");
        Array.setChar(kinds, 2 * 12 + 3, 'r');
        checks.due("31 in one room", x.isSafe(), false);
        Array.setChar(kinds, 2 * 12 + 3, 'w');
        checks.due("31 on two walls", x.isSafe(), true);
    }

    /** On wall 1 hangs a work that takes 50, on all days of the exhibition. */
    private static void tooShort(Checks checks) throws ReflectiveOperationException {
        LoggiaPlanner x = Museums.small();
        set(room(x, 0), "second", 49);
        checks.due("31 too short a wall", x.isSafe(), false);
        set(room(x, 0), "second", 50);
        checks.due("31 just long enough", x.isSafe(), true);
    }

    private static void awayTwice(Checks checks) throws ReflectiveOperationException {
        LoggiaPlanner x = Museums.small();
        set(exhibition(x, Museums.WAITING), "state", 'p');
        checks.due("31 away for two", x.isSafe(), false);
        set(exhibition(x, Museums.PLANNED), "state", 'c');
        checks.due("31 away for one", x.isSafe(), true);
    }

    private static void waitsInVain(Checks checks) throws ReflectiveOperationException {
        LoggiaPlanner x = Museums.small();
        set(exhibition(x, Museums.DRAFT), "state", 'w');
        checks.due("31 waits though a plan is possible", x.isSafe(), false);
        x = Museums.small();
        set(exhibition(x, Museums.LENT_TOO_DEAR), "state", 'w');
        checks.due("31 waits rightly", x.isSafe(), true);
    }

    private static Object room(LoggiaPlanner x, int number) throws ReflectiveOperationException {
        return ((List<?>) get(get(x, "house"), "rooms")).get(number);
    }

    private static Object exhibition(LoggiaPlanner x, int number)
            throws ReflectiveOperationException {
        return ((List<?>) get(get(x, "calendar"), "exhibitions")).get(number);
    }

    private static Field field(Object of, String name) throws ReflectiveOperationException {
        Field field = of.getClass().getDeclaredField(name);
        field.setAccessible(true);
        return field;
    }

    private static Object get(Object of, String name) throws ReflectiveOperationException {
        return field(of, name).get(of);
    }

    private static void set(Object of, String name, Object value)
            throws ReflectiveOperationException {
        field(of, name).set(of, value);
    }
}
