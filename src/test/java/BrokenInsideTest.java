import java.lang.reflect.Array;
import java.lang.reflect.Field;
import java.util.List;

/**
 * Promise 31 once more: no run of calls can make a planner unsafe, so this one breaks the state inside by
 * the names of the private fields, and must follow when these change.
 */
public final class BrokenInsideTest {
    public static void main(String[] args) throws ReflectiveOperationException {
        if (!isCutInThisWay()) {
            System.out.println("left out: the class under test is cut in another way");
            return;
        }
        Checks checks = new Checks();
        misplaced(checks);
        misplacedAtEachEdge(checks);
        notApart(checks);
        notApartOnOneDay(checks);
        tooShort(checks);
        tooShortOnOneDay(checks);
        awayTwice(checks);
        awayTwiceOnATravelDay(checks);
        waitsInVain(checks);
        checks.end();
    }

    /** One that holds its state in another way is as good; if only a name has changed, this must fail. */
    private static boolean isCutInThisWay() {
        List<String> known = List.of("house", "separations", "calendar");
        for (Field field : LoggiaPlanner.class.getDeclaredFields()) {
            if (known.contains(field.getName())) {
                return true;
            }
        }
        return false;
    }

    private static void misplaced(Checks checks) throws ReflectiveOperationException {
        LoggiaPlanner x = Museums.small();
        set(room(x, 1), "light", 31);
        checks.due("31 a work does not stand the light", x.isSafe(), false);
        set(room(x, 1), "light", 30);
        checks.due("31 it stands this", x.isSafe(), true);
    }

    /** "Each work that hangs can hang where it does" */
    private static void misplacedAtEachEdge(Checks checks) throws ReflectiveOperationException {
        LoggiaPlanner x = new LoggiaPlanner();
        x.addRoom(50, 50, 10, 10);
        x.addWork(1, 0, 100, 100, 1, -1);
        x.addWork(1, 45, 55, 60, 1, -1);
        Museums.addShow(x, 99, 99, 0, 0, 1);
        x.request(0);
        int[][] climates = {{45, 60}, {55, 0}, {44, 60}, {56, 60}, {50, 61}};
        for (int[] climate : climates) {
            set(room(x, 0), "humidity", climate[0]);
            set(room(x, 0), "light", climate[1]);
            boolean due = climate[0] >= 45 && climate[0] <= 55 && climate[1] <= 60;
            checks.due("31 at " + climate[0] + " and " + climate[1], x.isSafe(), due);
        }
    }

    private static void notApart(Checks checks) throws ReflectiveOperationException {
        LoggiaPlanner x = Museums.small();
        Object kinds = get(get(x, "separations"), "kinds");
        Array.setChar(kinds, 2 * 12 + 3, 'r');
        checks.due("31 in one room", x.isSafe(), false);
        Array.setChar(kinds, 2 * 12 + 3, 'w');
        checks.due("31 on two walls", x.isSafe(), true);
    }

    /** "No separation is broken": two exhibitions, with the day 50 in common or none. */
    private static void notApartOnOneDay(Checks checks) throws ReflectiveOperationException {
        for (int start = 50; start <= 51; start++) {
            LoggiaPlanner x = Museums.withWidths(100, 100, 10, 10);
            Museums.addShow(x, 0, 50, 0, 0);
            Museums.addShow(x, start, 99, 0, 1);
            x.request(0);
            x.request(1);
            Object kinds = get(get(x, "separations"), "kinds");
            for (char kind : new char[] {'r', 'w'}) {
                Array.setChar(kinds, 1, kind);
                Array.setChar(kinds, 12, kind);
                checks.due("31 on one wall from day " + start, x.isSafe(), start > 50);
            }
        }
    }

    /** On wall 1 hangs a work that takes 50, on all days of the exhibition. */
    private static void tooShort(Checks checks) throws ReflectiveOperationException {
        LoggiaPlanner x = Museums.small();
        set(room(x, 0), "second", 49);
        checks.due("31 too short a wall", x.isSafe(), false);
        set(room(x, 0), "second", 50);
        checks.due("31 just long enough", x.isSafe(), true);
    }

    /** "No wall is too short on a day": the first, the last, or one between. */
    private static void tooShortOnOneDay(Checks checks) throws ReflectiveOperationException {
        for (int day : new int[] {0, 1, 50, 98, 99}) {
            LoggiaPlanner x = Museums.withWidths(100, 1, 30, 40);
            Museums.addShow(x, 0, 99, 5, 0);
            Museums.addShow(x, day, day, 5, 1);
            x.request(0);
            x.request(1);
            set(room(x, 0), "first", 80);
            checks.due("31 just long enough on day " + day, x.isSafe(), true);
            set(room(x, 0), "first", 79);
            checks.due("31 too short on day " + day, x.isSafe(), false);
        }
    }

    private static void awayTwice(Checks checks) throws ReflectiveOperationException {
        LoggiaPlanner x = Museums.small();
        set(exhibition(x, Museums.WAITING), "state", 'p');
        checks.due("31 away for two", x.isSafe(), false);
        set(exhibition(x, Museums.PLANNED), "state", 'c');
        checks.due("31 away for one", x.isSafe(), true);
    }

    /** "No work is away for two exhibitions on a day": they meet on the way, on day 15, or do not. */
    private static void awayTwiceOnATravelDay(Checks checks) throws ReflectiveOperationException {
        for (int start = 20; start <= 21; start++) {
            LoggiaPlanner x = new LoggiaPlanner();
            x.addRoom(50, 50, 100, 100);
            x.addLender(5, 5, 100);
            x.addWork(10, 0, 100, 100, 5, 0);
            Museums.addShow(x, 5, 10, 0, 0);
            Museums.addShow(x, start, 99, 0, 0);
            x.request(0);
            set(exhibition(x, 1), "state", 'p');
            checks.due("31 from day " + start, x.isSafe(), start > 20);
        }
    }

    /** "For no exhibition that waits a plan is possible" */
    private static void waitsInVain(Checks checks) throws ReflectiveOperationException {
        LoggiaPlanner x = Museums.small();
        set(exhibition(x, Museums.DRAFT), "state", 'w');
        checks.due("31 waits though a plan is possible", x.isSafe(), false);
        x = Museums.small();
        set(exhibition(x, Museums.LENT_TOO_DEAR), "state", 'w');
        checks.due("31 waits rightly", x.isSafe(), true);
        for (int i = 0; i < 8; i++) {
            x = Museums.counting(1, 0, 8, 8);
            set(exhibition(x, i), "state", 'w');
            checks.due("31 exhibition " + i + " waits in vain", x.isSafe(), false);
        }
    }

    private static Object room(LoggiaPlanner x, int number) throws ReflectiveOperationException {
        return ((List<?>) get(get(x, "house"), "rooms")).get(number);
    }

    private static Object exhibition(LoggiaPlanner x, int number)
            throws ReflectiveOperationException {
        return ((List<?>) get(get(x, "calendar"), "exhibitions")).get(number);
    }

    private static Field field(Object of, String name) throws ReflectiveOperationException {
        Field field = of.getClass().getDeclaredField(name);
        field.setAccessible(true);
        return field;
    }

    private static Object get(Object of, String name) throws ReflectiveOperationException {
        return field(of, name).get(of);
    }

    private static void set(Object of, String name, Object value)
            throws ReflectiveOperationException {
        field(of, name).set(of, value);
    }
}
