import java.util.NoSuchElementException;

/** Promises 24 to 26 and 30: what hangs on the walls, and what is away. */
public final class WallsTest {
    private static final Class<?> INDEX = IndexOutOfBoundsException.class;
    private static final Class<?> RANGE = IllegalArgumentException.class;
    private static final Class<?> MISSING = NoSuchElementException.class;

    public static void main(String[] args) {
        Checks checks = new Checks();
        wallsDayByDay(checks);
        wallsRefuse(checks);
        awayDayByDay(checks);
        awayRefuses(checks);
        checks.end();
    }

    /** Three works on wall 0, two of them of one exhibition, and one on wall 1. */
    private static LoggiaPlanner hung() {
        LoggiaPlanner x = Museums.withWidths(120, 70, 20, 30, 40, 50, 10);
        Museums.addShow(x, 0, 10, 3, 0, 1);
        Museums.addShow(x, 10, 99, 5, 2);
        Museums.addShow(x, 5, 6, 0, 4);
        Museums.addShow(x, 10, 10, 20, 3);
        x.request(0);
        x.request(1);
        x.request(3);
        return x;
    }

    private static void wall(Checks checks, LoggiaPlanner x, int wall, int day, int taken, int count,
            float share) {
        checks.due("24 taken " + wall + " " + day, x.taken(wall, day), taken);
        checks.due("25 hanging " + wall + " " + day, x.hanging(wall, day), count);
        checks.due("30 share " + wall + " " + day, x.share(wall, day), share);
    }

    private static void wallsDayByDay(Checks checks) {
        LoggiaPlanner x = hung();
        wall(checks, x, 0, 0, 56, 2, 56.0f / 120.0f);
        wall(checks, x, 0, 5, 56, 2, 56.0f / 120.0f);
        wall(checks, x, 0, 9, 56, 2, 56.0f / 120.0f);
        wall(checks, x, 0, 10, 101, 3, 101.0f / 120.0f);
        wall(checks, x, 0, 11, 45, 1, 0.375f);
        wall(checks, x, 0, 99, 45, 1, 0.375f);
        wall(checks, x, 1, 9, 0, 0, 0.0f);
        wall(checks, x, 1, 10, 70, 1, 1.0f);
        wall(checks, x, 1, 11, 0, 0, 0.0f);
        x.cancel(0);
        wall(checks, x, 0, 0, 0, 0, 0.0f);
        wall(checks, x, 0, 10, 45, 1, 0.375f);
        wall(checks, x, 1, 10, 70, 1, 1.0f);
    }

    private static void wallsRefuse(Checks checks) {
        for (int i = -1; i <= 4; i += 5) {
            int wrong = i;
            checks.refused("24 wall", INDEX, Museums::small, y -> y.taken(wrong, 0));
            checks.refused("25 wall", INDEX, Museums::small, y -> y.hanging(wrong, 0));
            checks.refused("30 wall", INDEX, Museums::small, y -> y.share(wrong, 0));
            checks.refused("24 wall first", INDEX, Museums::small, y -> y.taken(wrong, 100));
            checks.refused("25 wall first", INDEX, Museums::small, y -> y.hanging(wrong, 100));
            checks.refused("30 wall first", INDEX, Museums::small, y -> y.share(wrong, 100));
        }
        for (int i = -1; i <= 100; i += 101) {
            int wrong = i;
            checks.refused("24 day", RANGE, Museums::small, y -> y.taken(0, wrong));
            checks.refused("25 day", RANGE, Museums::small, y -> y.hanging(0, wrong));
            checks.refused("30 day", RANGE, Museums::small, y -> y.share(0, wrong));
        }
    }

    /** The work 0 travels nine days and hangs at both ends; the work 1 is the museum's. */
    private static LoggiaPlanner travelling() {
        LoggiaPlanner x = new LoggiaPlanner();
        x.addRoom(50, 50, 100, 100);
        x.addLender(100, 9, 100);
        x.addWork(1, 0, 100, 100, 100, 0);
        x.addWork(1, 0, 100, 100, 100, -1);
        Museums.addShow(x, 20, 20, 0, 0);
        Museums.addShow(x, 99, 99, 0, 1, 0);
        Museums.addShow(x, 9, 11, 0, 0, 1);
        Museums.addShow(x, 0, 2, 0, 1);
        x.request(1);
        x.request(2);
        x.request(3);
        return x;
    }

    private static void awayDayByDay(Checks checks) {
        LoggiaPlanner x = travelling();
        int[][] away = {{0, 0, 2}, {0, 9, 2}, {0, 20, 2}, {0, 90, 1}, {0, 99, 1}, {0, 108, 1},
            {1, 0, 3}, {1, 2, 3}, {1, 9, 2}, {1, 11, 2}, {1, 99, 1}};
        for (int[] a : away) {
            checks.due("26 away " + a[0] + " " + a[1], x.awayFor(a[0], a[1]), a[2]);
        }
        int[][] here = {{0, -9}, {0, -1}, {0, 21}, {0, 89}, {1, -9}, {1, 3}, {1, 8}, {1, 12},
            {1, 98}, {1, 100}, {1, 108}};
        for (int[] h : here) {
            checks.refused("26 not away " + h[0] + " " + h[1], MISSING, WallsTest::travelling,
                    y -> y.awayFor(h[0], h[1]));
        }
        x.cancel(2);
        checks.due("26 away for the first exhibition", Museums.small().awayFor(0, 15), 0);
        checks.due("26 not away when cancelled", Checks.thrown(x, y -> y.awayFor(0, 9)),
                MISSING.getName());
    }

    private static void awayRefuses(Checks checks) {
        checks.refused("26 no work", INDEX, Museums::small, y -> y.awayFor(5, -10));
        checks.refused("26 no work", INDEX, Museums::small, y -> y.awayFor(-1, 0));
        checks.refused("26 day", RANGE, Museums::small, y -> y.awayFor(0, -10));
        checks.refused("26 day", RANGE, Museums::small, y -> y.awayFor(0, 109));
    }
}
