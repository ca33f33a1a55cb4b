/** Promises 4, 5 and 8: lenders and works. */
public final class LendersAndWorksTest {
    private static final Class<?> RANGE = IllegalArgumentException.class;
    private static final Class<?> STATE = IllegalStateException.class;

    public static void main(String[] args) {
        Checks checks = new Checks();
        addLender(checks);
        addLenderRefuses(checks);
        addWork(checks);
        addWorkRefuses(checks);
        checks.end();
    }

    private static void addLender(Checks checks) {
        LoggiaPlanner x = Museums.empty();
        checks.due("4 least numbers", x.addLender(1, 0, 1), 0);
        checks.due("4 greatest numbers", x.addLender(9999, 9, 100), 1);
        checks.due("4 third", x.addLender(5, 5, 5), 2);
        checks.due("4 fourth", x.addLender(5, 5, 5), 3);
    }

    private static void addLenderRefuses(Checks checks) {
        int[][] wrong = {{0, 0, 1}, {10000, 0, 1}, {1, -1, 1}, {1, 10, 1}, {1, 0, 0}, {1, 0, 101}};
        for (int[] w : wrong) {
            checks.refused("4 range", RANGE, Museums::small, y -> y.addLender(w[0], w[1], w[2]));
        }
        checks.refused("4 range first", RANGE, Museums::full, y -> y.addLender(0, 0, 1));
        checks.refused("4 fifth", STATE, Museums::full, y -> y.addLender(1, 0, 1));
    }

    private static void addWork(Checks checks) {
        LoggiaPlanner x = Museums.empty();
        x.addLender(5, 5, 5);
        x.addLender(5, 5, 5);
        checks.due("5 least numbers", x.addWork(1, 0, 0, 0, 1, -1), 0);
        checks.due("5 greatest numbers", x.addWork(200, 100, 100, 100, 999, 1), 1);
        checks.due("8 works", x.works(), 2);
        for (int i = 2; i < 12; i++) {
            checks.due("5 number", x.addWork(5, 0, 100, 5, 5, 0), i);
        }
        checks.due("8 works", x.works(), 12);
    }

    private static void addWorkRefuses(Checks checks) {
        int[][] wrong = {{0, 0, 5, 5, 5, -1}, {201, 0, 5, 5, 5, -1}, {5, -1, 5, 5, 5, -1},
            {5, 101, 101, 5, 5, -1}, {5, 6, 5, 5, 5, -1}, {5, 0, 101, 5, 5, -1}, {5, 0, 5, -1, 5, -1},
            {5, 0, 5, 101, 5, -1}, {5, 0, 5, 5, 0, -1}, {5, 0, 5, 5, 1000, -1}, {5, 0, 5, 5, 5, -2},
            {5, 0, 5, 5, 5, 2}};
        for (int[] w : wrong) {
            checks.refused("5 range", RANGE, Museums::small,
                    y -> y.addWork(w[0], w[1], w[2], w[3], w[4], w[5]));
        }
        checks.refused("5 range first", RANGE, Museums::full, y -> y.addWork(0, 0, 5, 5, 5, -1));
        checks.refused("5 lender first", RANGE, Museums::full, y -> y.addWork(5, 0, 5, 5, 5, 4));
        checks.refused("5 thirteenth", STATE, Museums::full, y -> y.addWork(5, 0, 5, 5, 5, -1));
    }
}
