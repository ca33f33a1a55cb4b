import java.util.NoSuchElementException;
import java.util.function.Supplier;

/** Promises 24 to 26 and 30: what hangs on the walls, and what is away. */
public final class WallsTest {
    private static final Class<?> INDEX = IndexOutOfBoundsException.class;
    private static final Class<?> RANGE = IllegalArgumentException.class;
    private static final Class<?> MISSING = NoSuchElementException.class;

    public static void main(String[] args) {
        Checks checks = new Checks();
        wallsDayByDay(checks);
        wallsThatAreThere(checks);
        daysThatAreThere(checks);
        hangsOnAllItsDays(checks);
        countsWhatHangsOnly(checks);
        sharesUpToAll(checks);
        awayDayByDay(checks);
        awayOnTravelDays(checks);
        awayInNoOtherState(checks);
        awayDaysInRange(checks);
        awayWorksThatAreThere(checks);
        checks.end();
    }

    /** Three works on wall 0, two of them of one exhibition, and one on wall 1. */
    private static LoggiaPlanner hung() {
        LoggiaPlanner x = Museums.withWidths(120, 70, 20, 30, 40, 50, 10);
        Museums.addShow(x, 0, 10, 3, 0, 1);
        Museums.addShow(x, 10, 99, 5, 2);
        Museums.addShow(x, 5, 6, 0, 4);
        Museums.addShow(x, 10, 10, 20, 3);
        x.request(0);
        x.request(1);
        x.request(3);
        return x;
    }

    private static void wall(Checks checks, LoggiaPlanner x, int wall, int day, int taken, int count,
            float share) {
        checks.due("24 taken " + wall + " " + day, x.taken(wall, day), taken);
        checks.due("25 hanging " + wall + " " + day, x.hanging(wall, day), count);
        checks.due("30 share " + wall + " " + day, x.share(wall, day), share);
    }

    private static void wallsDayByDay(Checks checks) {
        LoggiaPlanner x = hung();
        wall(checks, x, 0, 0, 56, 2, 56.0f / 120.0f);
        wall(checks, x, 0, 5, 56, 2, 56.0f / 120.0f);
        wall(checks, x, 0, 9, 56, 2, 56.0f / 120.0f);
        wall(checks, x, 0, 10, 101, 3, 101.0f / 120.0f);
        wall(checks, x, 0, 11, 45, 1, 0.375f);
        wall(checks, x, 0, 99, 45, 1, 0.375f);
        wall(checks, x, 1, 9, 0, 0, 0.0f);
        wall(checks, x, 1, 10, 70, 1, 1.0f);
        wall(checks, x, 1, 11, 0, 0, 0.0f);
        x.cancel(0);
        wall(checks, x, 0, 0, 0, 0, 0.0f);
        wall(checks, x, 0, 10, 45, 1, 0.375f);
        wall(checks, x, 1, 10, 70, 1, 1.0f);
    }

    /** "Throws IndexOutOfBoundsException if there is no such wall" */
    private static void wallsThatAreThere(Checks checks) {
        for (int i = 0; i <= 4; i++) {
            int rooms = i;
            Supplier<LoggiaPlanner> start = () -> Museums.counting(rooms, 4, 12, 8);
            checks.range("24 wall of " + rooms, INDEX, start, 0, 2 * rooms - 1,
                    (x, n) -> x.taken(n, 0));
            checks.range("25 wall of " + rooms, INDEX, start, 0, 2 * rooms - 1,
                    (x, n) -> x.hanging(n, 0));
            checks.range("30 wall of " + rooms, INDEX, start, 0, 2 * rooms - 1,
                    (x, n) -> x.share(n, 0));
        }
    }

    /** "The day, 0 to 99", "Throws IllegalArgumentException if there is no such day" */
    private static void daysThatAreThere(Checks checks) {
        for (int i : new int[] {0, 3}) {
            int wall = i;
            checks.range("24 day", RANGE, Museums::small, 0, 99, (x, n) -> x.taken(wall, n));
            checks.range("25 day", RANGE, Museums::small, 0, 99, (x, n) -> x.hanging(wall, n));
            checks.range("30 day", RANGE, Museums::small, 0, 99, (x, n) -> x.share(wall, n));
        }
    }

    /** "Hang on their walls on all its days": from the first to the last one, and on no other. */
    private static void hangsOnAllItsDays(Checks checks) {
        int[][] spans = {{0, 0}, {99, 99}, {0, 99}, {1, 98}, {41, 41}, {30, 60}};
        for (int[] span : spans) {
            LoggiaPlanner x = Museums.withWidths(100, 1, 30);
            Museums.addShow(x, span[0], span[1], 20, 0);
            x.request(0);
            for (int day = 0; day <= 99; day++) {
                boolean hangs = span[0] <= day && day <= span[1];
                wall(checks, x, 0, day, hangs ? 50 : 0, hangs ? 1 : 0, hangs ? 0.5f : 0.0f);
            }
        }
    }

    /** A draft, one that waits, and one that is cancelled take no wall. */
    private static void countsWhatHangsOnly(Checks checks) {
        LoggiaPlanner x = Museums.withWidths(100, 1, 30, 40);
        Museums.addShow(x, 5, 5, 0, 0);
        wall(checks, x, 0, 5, 0, 0, 0.0f);
        x.request(0);
        wall(checks, x, 0, 5, 30, 1, 0.3f);
        Museums.addShow(x, 5, 5, 0, 0, 1);
        x.request(1);
        wall(checks, x, 0, 5, 30, 1, 0.3f);
        x.cancel(0);
        wall(checks, x, 0, 5, 70, 2, 0.7f);
        x.cancel(1);
        wall(checks, x, 0, 5, 0, 0, 0.0f);
    }

    /** "What is taken divided by the length, both converted to float": from nothing to all. */
    private static void sharesUpToAll(Checks checks) {
        for (int length : new int[] {1, 3, 7, 199, 200, 399, 400}) {
            LoggiaPlanner x = Museums.withWidths(length, length, Math.min(length, 200));
            Museums.addShow(x, 5, 5, 0, 0);
            x.request(0);
            checks.due("30 of " + length, x.share(0, 5), (float) Math.min(length, 200) / length);
            checks.due("30 nothing of " + length, x.share(1, 5), 0.0f);
            checks.due("30 nothing of " + length, x.share(0, 6), 0.0f);
        }
        LoggiaPlanner x = Museums.withWidths(400, 400, 200, 150);
        Museums.addShow(x, 5, 5, 25, 0, 1);
        x.request(0);
        wall(checks, x, 0, 5, 400, 2, 1.0f);
    }

    /** The work 0 travels nine days and hangs at both ends; the work 1 is the museum's. */
    private static LoggiaPlanner travelling() {
        LoggiaPlanner x = new LoggiaPlanner();
        x.addRoom(50, 50, 100, 100);
        x.addLender(100, 9, 100);
        x.addWork(1, 0, 100, 100, 100, 0);
        x.addWork(1, 0, 100, 100, 100, -1);
        Museums.addShow(x, 20, 20, 0, 0);
        Museums.addShow(x, 99, 99, 0, 1, 0);
        Museums.addShow(x, 9, 11, 0, 0, 1);
        Museums.addShow(x, 0, 2, 0, 1);
        x.request(1);
        x.request(2);
        x.request(3);
        return x;
    }

    private static void awayDayByDay(Checks checks) {
        LoggiaPlanner x = travelling();
        int[][] away = {{0, 0, 2}, {0, 9, 2}, {0, 20, 2}, {0, 90, 1}, {0, 99, 1}, {0, 108, 1},
            {1, 0, 3}, {1, 2, 3}, {1, 9, 2}, {1, 11, 2}, {1, 99, 1}};
        for (int[] a : away) {
            checks.due("26 away " + a[0] + " " + a[1], x.awayFor(a[0], a[1]), a[2]);
        }
        int[][] here = {{0, -9}, {0, -1}, {0, 21}, {0, 89}, {1, -9}, {1, 3}, {1, 8}, {1, 12},
            {1, 98}, {1, 100}, {1, 108}};
        for (int[] h : here) {
            checks.refused("26 not away " + h[0] + " " + h[1], MISSING, WallsTest::travelling,
                    y -> y.awayFor(h[0], h[1]));
        }
        x.cancel(2);
        checks.due("26 away for the first exhibition", Museums.small().awayFor(0, 15), 0);
        checks.due("26 not away when cancelled", Checks.thrown(x, y -> y.awayFor(0, 9)),
                MISSING.getName());
    }

    /** "Also on as many days before and after these as the lender has travel days." */
    private static void awayOnTravelDays(Checks checks) {
        int[][] spans = {{9, 9}, {99, 99}, {9, 99}, {30, 60}};
        for (int travel = 0; travel <= 9; travel++) {
            for (int[] span : spans) {
                LoggiaPlanner x = new LoggiaPlanner();
                x.addRoom(50, 50, 100, 100);
                x.addLender(100, travel, 100);
                x.addWork(1, 0, 100, 100, 100, 0);
                x.addWork(1, 0, 100, 100, 100, -1);
                Museums.addShow(x, span[0], span[1], 0, 0, 1);
                x.request(0);
                for (int day = -9; day <= 108; day++) {
                    away(checks, x, 0, day, span[0] - travel <= day && day <= span[1] + travel);
                    away(checks, x, 1, day, span[0] <= day && day <= span[1]);
                }
            }
        }
    }

    private static void away(Checks checks, LoggiaPlanner x, int work, int day, boolean isAway) {
        String what = "26 work " + work + " on day " + day;
        if (isAway) {
            checks.due(what, x.awayFor(work, day), 0);
        } else {
            checks.due(what, Checks.thrown(x, y -> y.awayFor(work, day)), MISSING.getName());
        }
    }

    /** "Throws NoSuchElementException if it is not away" */
    private static void awayInNoOtherState(Checks checks) {
        checks.refused("26 draft", MISSING, Museums::small, x -> x.awayFor(1, 30));
        checks.refused("26 waits", MISSING, Museums::small, x -> x.awayFor(0, 20));
        checks.refused("26 cancelled", MISSING, Museums::small, x -> x.awayFor(2, 50));
        checks.refused("26 in no exhibition", MISSING, () -> Museums.counting(1, 1, 1, 0),
                x -> x.awayFor(0, 50));
        checks.refused("26 taken down", MISSING, Museums::smallTakenDown, x -> x.awayFor(0, 10));
        checks.due("26 planned", Museums.small().awayFor(0, 15), Museums.PLANNED);
    }

    /** "The day, from -9 to 108": the work 0 is away on day 108, no work is on day -9. */
    private static void awayDaysInRange(Checks checks) {
        checks.due("26 day 108", travelling().awayFor(0, 108), 1);
        checks.refused("26 day -9", MISSING, WallsTest::travelling, x -> x.awayFor(0, -9));
        checks.outside("26 day", RANGE, WallsTest::travelling, -9, 108, (x, n) -> x.awayFor(0, n));
        checks.outside("26 day", RANGE, Museums::small, -9, 108, (x, n) -> x.awayFor(4, n));
    }

    /** "Throws IndexOutOfBoundsException if there is no such work" */
    private static void awayWorksThatAreThere(Checks checks) {
        for (int i : new int[] {0, 1, 11, 12}) {
            int count = i;
            checks.range("26 work of " + count, INDEX, () -> allAway(count), 0, count - 1,
                    (x, n) -> x.awayFor(n, 50));
        }
    }

    private static LoggiaPlanner allAway(int works) {
        LoggiaPlanner x = Museums.counting(1, 0, works, 0);
        x.addRoom(50, 50, 400, 400);
        for (int i = 0; i < works; i++) {
            if (i % 5 == 0) {
                x.addExhibition(50, 50, 0);
            }
            x.include(i / 5, i);
        }
        for (int i = 0; i < works; i += 5) {
            x.request(i / 5);
        }
        return x;
    }
}
