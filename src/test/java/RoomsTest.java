import java.util.NoSuchElementException;

/** Promises 1 to 3, 7 and 10: a new object, rooms and their climates. */
public final class RoomsTest {
    private static final Class<?> RANGE = IllegalArgumentException.class;
    private static final Class<?> INDEX = IndexOutOfBoundsException.class;

    public static void main(String[] args) {
        Checks checks = new Checks();
        newObject(checks);
        addRoom(checks);
        addRoomPlansThoseThatWait(checks);
        addRoomRefuses(checks);
        setClimate(checks);
        setClimateLooksAtAllDays(checks);
        setClimatePlansAnewOnOtherWalls(checks);
        setClimateFreesRoomForLowerNumbers(checks);
        setClimateRefuses(checks);
        canHang(checks);
        checks.end();
    }

    private static void newObject(Checks checks) {
        LoggiaPlanner x = Museums.empty();
        checks.due("1 rooms", x.rooms(), 0);
        checks.due("1 works", x.works(), 0);
        checks.due("1 planned", x.planned(), 0);
        checks.due("1 insured", x.insured(), 0L);
        checks.due("1 isSafe", x.isSafe(), true);
        checks.refused("1 stateOf", NoSuchElementException.class, Museums::empty, y -> y.stateOf(0));
        checks.refused("1 trips", NoSuchElementException.class, Museums::empty, y -> y.trips(0, 0));
        checks.refused("1 canHang", INDEX, Museums::empty, y -> y.canHang(0, 0));
        checks.refused("1 taken", INDEX, Museums::empty, y -> y.taken(0, 0));
        checks.refused("1 addWork of a lender", RANGE, Museums::empty,
                y -> y.addWork(5, 0, 5, 5, 5, 0));
    }

    private static void addRoom(Checks checks) {
        LoggiaPlanner x = Museums.empty();
        checks.due("2 least numbers", x.addRoom(0, 0, 1, 1), 0);
        checks.due("2 greatest numbers", x.addRoom(100, 100, 400, 400), 1);
        checks.due("7 rooms", x.rooms(), 2);
        checks.due("2 third", x.addRoom(50, 0, 1, 400), 2);
        checks.due("2 fourth", x.addRoom(0, 50, 400, 1), 3);
        checks.due("7 rooms", x.rooms(), 4);
        checks.due("2 walls exist", x.taken(7, 0), 0);
    }

    private static void addRoomPlansThoseThatWait(Checks checks) {
        LoggiaPlanner x = Museums.withWidths(10, 10, 30, 25);
        Museums.addShow(x, 0, 5, 0, 0);
        Museums.addShow(x, 5, 9, 0, 1);
        Museums.addShow(x, 5, 9, 0, 1);
        checks.due("2 waits", x.request(2), 'w');
        checks.due("2 waits", x.request(0), 'w');
        checks.due("2 adds", x.addRoom(50, 50, 30, 29), 1);
        checks.due("2 planned", x.stateOf(0), 'p');
        checks.due("2 planned", x.wallOf(0, 0), 2);
        checks.due("2 planned, too", x.wallOf(2, 0), 3);
        checks.due("2 drafts stay", x.stateOf(1), 'd');
        checks.due("2 times", x.planned(), 2);
    }

    private static void addRoomRefuses(Checks checks) {
        int[][] wrong = {{-1, 0, 5, 5}, {101, 0, 5, 5}, {0, -1, 5, 5}, {0, 101, 5, 5}, {0, 0, 0, 5},
            {0, 0, 401, 5}, {0, 0, 5, 0}, {0, 0, 5, 401}, {Integer.MIN_VALUE, 0, 5, 5},
            {0, 0, Integer.MAX_VALUE, 5}};
        for (int[] w : wrong) {
            checks.refused("2 out of range", RANGE, Museums::small,
                    y -> y.addRoom(w[0], w[1], w[2], w[3]));
        }
        checks.refused("2 out of range first", RANGE, Museums::full, y -> y.addRoom(-1, 0, 5, 5));
        checks.refused("2 fifth room", IllegalStateException.class, Museums::full,
                y -> y.addRoom(0, 0, 5, 5));
    }

    private static void setClimate(Checks checks) {
        LoggiaPlanner x = new LoggiaPlanner();
        x.addRoom(50, 50, 100, 100);
        x.addWork(10, 45, 55, 60, 5, -1);
        Museums.addShow(x, 0, 9, 0, 0);
        x.request(0);
        checks.due("3 at the least humidity", x.setClimate(0, 45, 60), 0);
        checks.due("3 at the greatest humidity", x.setClimate(0, 55, 0), 0);
        checks.due("3 still planned", x.planned(), 1);
        checks.due("3 too dry", x.setClimate(0, 44, 50), 1);
        checks.due("3 waits", x.stateOf(0), 'w');
        checks.due("3 does not hang", x.hanging(0, 5), 0);
        checks.due("3 waits already", x.setClimate(0, 56, 50), 0);
        checks.due("3 planned anew", x.setClimate(0, 50, 60), 0);
        checks.due("3 planned", x.stateOf(0), 'p');
        checks.due("3 times", x.planned(), 2);
        checks.due("3 too light", x.setClimate(0, 50, 61), 1);
        checks.due("3 edge 0", x.setClimate(0, 0, 0), 0);
        checks.due("3 edge 100", x.setClimate(0, 100, 100), 0);
        checks.due("3 waits", x.stateOf(0), 'w');
    }

    private static void setClimateLooksAtAllDays(Checks checks) {
        LoggiaPlanner x = new LoggiaPlanner();
        x.addRoom(50, 50, 100, 100);
        x.addWork(10, 45, 55, 60, 5, -1);
        x.addWork(10, 0, 100, 60, 5, -1);
        Museums.addShow(x, 0, 0, 0, 0);
        Museums.addShow(x, 1, 98, 0, 1);
        Museums.addShow(x, 99, 99, 0, 1, 0);
        Museums.addShow(x, 50, 50, 0, 0);
        for (int i = 0; i < 3; i++) {
            checks.due("3 planned", x.request(i), 'p');
        }
        checks.due("3 the first and the last day", x.setClimate(0, 60, 50), 2);
        checks.due("3 first", x.stateOf(0), 'w');
        checks.due("3 between", x.stateOf(1), 'p');
        checks.due("3 last", x.stateOf(2), 'w');
        checks.due("3 draft", x.stateOf(3), 'd');
    }

    private static void setClimatePlansAnewOnOtherWalls(Checks checks) {
        LoggiaPlanner x = new LoggiaPlanner();
        x.addRoom(50, 50, 100, 100);
        x.addRoom(60, 50, 100, 100);
        x.addWork(10, 40, 55, 60, 5, -1);
        x.addWork(10, 40, 60, 60, 5, -1);
        Museums.addShow(x, 3, 4, 0, 1);
        Museums.addShow(x, 3, 4, 0, 0);
        x.request(0);
        x.request(1);
        checks.due("3 first on wall 0", x.wallOf(0, 0), 0);
        checks.due("3 both are taken down", x.setClimate(0, 61, 50), 2);
        checks.due("3 hangs in the other room", x.wallOf(0, 0), 2);
        checks.due("3 cannot hang", x.stateOf(1), 'w');
        checks.due("3 the other room only", x.setClimate(1, 60, 50), 0);
        checks.due("3 plans of others stay", x.setClimate(0, 50, 50), 0);
        checks.due("3 stays in the other room", x.wallOf(0, 0), 2);
        checks.due("3 hangs again", x.wallOf(1, 0), 0);
        checks.due("3 times", x.planned(), 4);
    }

    private static void setClimateFreesRoomForLowerNumbers(Checks checks) {
        LoggiaPlanner x = new LoggiaPlanner();
        x.addRoom(50, 50, 100, 1);
        x.addWork(90, 0, 100, 60, 5, -1);
        x.addWork(90, 50, 50, 60, 5, -1);
        Museums.addShow(x, 3, 4, 0, 0);
        Museums.addShow(x, 3, 4, 0, 1);
        x.request(1);
        checks.due("3 no room", x.request(0), 'w');
        checks.due("3 taken down", x.setClimate(0, 51, 50), 1);
        checks.due("3 has room now", x.stateOf(0), 'p');
        checks.due("3 nobody is taken down", x.setClimate(0, 50, 50), 0);
        checks.due("3 no room any more", x.stateOf(1), 'w');
    }

    private static void setClimateRefuses(Checks checks) {
        checks.refused("3 no room", INDEX, Museums::small, y -> y.setClimate(2, 0, 0));
        checks.refused("3 no room", INDEX, Museums::small, y -> y.setClimate(-1, 0, 0));
        checks.refused("3 room first", INDEX, Museums::small, y -> y.setClimate(2, 101, 0));
        int[][] wrong = {{-1, 0}, {101, 0}, {0, -1}, {0, 101}};
        for (int[] w : wrong) {
            checks.refused("3 range", RANGE, Museums::small, y -> y.setClimate(0, w[0], w[1]));
        }
    }

    private static void canHang(Checks checks) {
        LoggiaPlanner x = new LoggiaPlanner();
        x.addRoom(50, 50, 100, 100);
        x.addRoom(51, 49, 1, 1);
        x.addWork(200, 50, 50, 50, 5, -1);
        x.addWork(200, 0, 49, 50, 5, -1);
        x.addWork(200, 51, 100, 50, 5, -1);
        x.addWork(200, 0, 100, 49, 5, -1);
        checks.due("10 just", x.canHang(0, 0), true);
        checks.due("10 too humid", x.canHang(0, 1), false);
        checks.due("10 too humid", x.canHang(1, 0), false);
        checks.due("10 too dry", x.canHang(2, 0), false);
        checks.due("10 just, on too short a wall", x.canHang(2, 1), true);
        checks.due("10 too light", x.canHang(3, 0), false);
        checks.due("10 just", x.canHang(3, 1), true);
        x.setClimate(0, 51, 50);
        checks.due("10 after a change", x.canHang(0, 0), false);
        checks.due("10 after a change", x.canHang(2, 0), true);
        checks.refused("10 no work", INDEX, Museums::small, y -> y.canHang(5, 0));
        checks.refused("10 no work", INDEX, Museums::small, y -> y.canHang(-1, 0));
        checks.refused("10 no room", INDEX, Museums::small, y -> y.canHang(0, 2));
        checks.refused("10 no room", INDEX, Museums::small, y -> y.canHang(0, -1));
    }
}
