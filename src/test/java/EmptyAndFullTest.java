import java.util.NoSuchElementException;
import java.util.function.Consumer;
import java.util.function.Function;

/** Each call on a planner without anything, and on one that holds all that it can. */
public final class EmptyAndFullTest {
    private static final Class<?> INDEX = IndexOutOfBoundsException.class;
    private static final Class<?> MISSING = NoSuchElementException.class;
    private static final Class<?> RANGE = IllegalArgumentException.class;
    private static final Class<?> STATE = IllegalStateException.class;

    private final Checks checks;

    private EmptyAndFullTest(Checks checks) {
        this.checks = checks;
    }

    public static void main(String[] args) {
        Checks checks = new Checks();
        EmptyAndFullTest test = new EmptyAndFullTest(checks);
        test.emptyAnswers();
        test.emptyRefuses();
        test.fullAnswers();
        test.fullRefusesMore();
        test.fullTakesChanges();
        test.fullPlansAll();
        checks.end();
    }

    private void empty(String what, Object due, Function<LoggiaPlanner, Object> call) {
        checks.due(what + " of the empty one", call.apply(Museums.empty()), due);
    }

    private void emptyAnswers() {
        empty("2", 0, x -> x.addRoom(50, 50, 50, 50));
        empty("4", 0, x -> x.addLender(50, 5, 50));
        empty("5", 0, x -> x.addWork(5, 5, 50, 5, 5, -1));
        empty("7", 0, LoggiaPlanner::rooms);
        empty("8", 0, LoggiaPlanner::works);
        empty("11", 0, x -> x.addExhibition(5, 50, 5));
        empty("27", 0, LoggiaPlanner::planned);
        empty("28", 0L, LoggiaPlanner::insured);
        empty("31", true, LoggiaPlanner::isSafe);
    }

    private void emptyRefuses(String what, Class<?> due, Consumer<LoggiaPlanner> call) {
        checks.refused(what + " of the empty one", due, Museums::empty, call);
    }

    private void emptyRefuses() {
        emptyRefuses("3", INDEX, x -> x.setClimate(0, 50, 50));
        emptyRefuses("5", RANGE, x -> x.addWork(5, 5, 50, 5, 5, 0));
        emptyRefuses("6", INDEX, x -> x.separate(0, 1, 'r'));
        emptyRefuses("9", INDEX, x -> x.separation(0, 1));
        emptyRefuses("10", INDEX, x -> x.canHang(0, 0));
        emptyRefuses("12", MISSING, x -> x.include(0, 0));
        emptyRefuses("13", MISSING, x -> x.request(0));
        emptyRefuses("14", MISSING, x -> x.cancel(0));
        emptyRefuses("15", MISSING, x -> x.stateOf(0));
        emptyRefuses("16", MISSING, x -> x.worksOf(0));
        emptyRefuses("17", MISSING, x -> x.workOf(0, 0));
        emptyRefuses("18", MISSING, x -> x.wallOf(0, 0));
        emptyRefuses("19", MISSING, x -> x.canTake(0, 0));
        emptyRefuses("20", MISSING, x -> x.wallFor(0, 0));
        emptyRefuses("21", MISSING, x -> x.wallForBySearch(0, 0));
        emptyRefuses("22", MISSING, x -> x.trips(0, 0));
        emptyRefuses("23", MISSING, x -> x.tripsByTrying(0, 0));
        emptyRefuses("24", INDEX, x -> x.taken(0, 0));
        emptyRefuses("25", INDEX, x -> x.hanging(0, 0));
        emptyRefuses("26", INDEX, x -> x.awayFor(0, 0));
        emptyRefuses("29", ArithmeticException.class, LoggiaPlanner::meanWorks);
        emptyRefuses("30", INDEX, x -> x.share(0, 0));
    }

    /**
     * 4 rooms, 4 lenders, 12 works and 8 exhibitions that are all planned, on eleven days each. The
     * exhibition 7 shows the works 7 to 11 with a gap of 1; they are 10 wide and the walls 60 long.
     */
    private static LoggiaPlanner full() {
        LoggiaPlanner x = new LoggiaPlanner();
        for (int i = 0; i < 4; i++) {
            x.addRoom(50, 50, 60, 60);
            x.addLender(100, 0, 50);
        }
        for (int i = 0; i < 12; i++) {
            x.addWork(10, 0, 50, 50, 30, i % 4);
        }
        for (int i = 0; i < 8; i++) {
            Museums.addShow(x, 12 * i, 12 * i + 10, 1, i, i + 1, i + 2, i + 3, i + 4);
            x.request(i);
        }
        return x;
    }

    private void fullAnswers() {
        LoggiaPlanner x = full();
        checks.due("7 rooms", x.rooms(), 4);
        checks.due("8 works", x.works(), 12);
        checks.due("9 last works", x.separation(10, 11), 'n');
        checks.due("10 last work, last room", x.canHang(11, 3), true);
        checks.due("15 last exhibition", x.stateOf(7), 'p');
        checks.due("16 last exhibition", x.worksOf(7), 5);
        checks.due("17 last work of the last one", x.workOf(7, 4), 11);
        checks.due("18 last work of the last one", x.wallOf(7, 4), 0);
        checks.due("19 last work of the last one", x.canTake(7, 4), true);
        checks.due("22 last lender", x.trips(7, 3), 1);
        checks.due("23 last lender", x.tripsByTrying(7, 3), 1);
        checks.due("24 first wall", x.taken(0, 94), 55);
        checks.due("24 last wall", x.taken(7, 99), 0);
        checks.due("25 first wall", x.hanging(0, 94), 5);
        checks.due("25 last wall", x.hanging(7, 94), 0);
        checks.due("26 last work", x.awayFor(11, 94), 7);
        checks.due("27 planned", x.planned(), 8);
        checks.due("28 insured", x.insured(), 8L * 5 * 30 * 11);
        checks.due("29 mean", x.meanWorks(), 5.0);
        checks.due("30 first wall", x.share(0, 94), 55.0f / 60.0f);
        checks.due("31 safe", x.isSafe(), true);
    }

    private void fullRefuses(String what, Class<?> due, Consumer<LoggiaPlanner> call) {
        checks.refused(what + " of the full one", due, EmptyAndFullTest::full, call);
    }

    private void fullRefusesMore() {
        fullRefuses("2", STATE, x -> x.addRoom(50, 50, 50, 50));
        fullRefuses("4", STATE, x -> x.addLender(50, 5, 50));
        fullRefuses("5", STATE, x -> x.addWork(5, 5, 50, 5, 5, -1));
        fullRefuses("11", STATE, x -> x.addExhibition(5, 50, 5));
        fullRefuses("12", STATE, x -> x.include(7, 0));
        fullRefuses("3", INDEX, x -> x.setClimate(4, 50, 50));
        fullRefuses("6", INDEX, x -> x.separate(11, 12, 'r'));
        fullRefuses("9", INDEX, x -> x.separation(12, 11));
        fullRefuses("10", INDEX, x -> x.canHang(12, 3));
        fullRefuses("10", INDEX, x -> x.canHang(11, 4));
        fullRefuses("13", MISSING, x -> x.request(8));
        fullRefuses("14", MISSING, x -> x.cancel(8));
        fullRefuses("15", MISSING, x -> x.stateOf(8));
        fullRefuses("16", MISSING, x -> x.worksOf(8));
        fullRefuses("17", INDEX, x -> x.workOf(7, 5));
        fullRefuses("18", INDEX, x -> x.wallOf(7, 5));
        fullRefuses("19", INDEX, x -> x.canTake(7, 5));
        fullRefuses("20", INDEX, x -> x.wallFor(7, 5));
        fullRefuses("21", INDEX, x -> x.wallForBySearch(7, 5));
        fullRefuses("22", INDEX, x -> x.trips(7, 4));
        fullRefuses("23", INDEX, x -> x.tripsByTrying(7, 4));
        fullRefuses("24", INDEX, x -> x.taken(8, 0));
        fullRefuses("25", INDEX, x -> x.hanging(8, 0));
        fullRefuses("26", INDEX, x -> x.awayFor(12, 0));
        fullRefuses("30", INDEX, x -> x.share(8, 0));
    }

    private void fullTakesChanges() {
        checks.due("3 last room", full().setClimate(3, 100, 100), 0);
        checks.due("3 first room, for all", full().setClimate(0, 51, 50), 8);
        checks.due("6 first and last", full().separate(0, 11, 'r'), 1);
        checks.due("14 last exhibition", full().cancel(7), 0);
        LoggiaPlanner x = full();
        for (int room = 0; room < 3; room++) {
            checks.due("3 all move on", x.setClimate(room, 51, 50), 8);
            checks.due("3 to the next room", x.wallOf(7, 4), 2 * room + 2);
        }
        checks.due("3 no room is left", x.setClimate(3, 51, 50), 8);
        checks.due("27 planned four times", x.planned(), 32);
        checks.due("3 back", x.setClimate(3, 50, 50), 0);
        checks.due("27 planned five times", x.planned(), 40);
        checks.due("18 on the last walls", x.wallOf(0, 0), 6);
    }

    /** All eight on the same days, each work for one of them only, fill all eight walls. */
    private void fullPlansAll() {
        LoggiaPlanner x = new LoggiaPlanner();
        for (int i = 0; i < 4; i++) {
            x.addRoom(50, 50, 51, 51);
        }
        for (int i = 0; i < 8; i++) {
            x.addWork(i < 7 ? 1 : 51, 0, 100, 100, 1, -1);
            Museums.addShow(x, 0, 99, i < 7 ? 50 : 0, i);
            checks.due("13 planned", x.request(i), 'p');
            checks.due("18 the next wall", x.wallOf(i, 0), i);
        }
        for (int wall = 0; wall < 8; wall++) {
            checks.due("30 full on the first day", x.share(wall, 0), 1.0f);
            checks.due("30 full on the last day", x.share(wall, 99), 1.0f);
            checks.due("25 one work", x.hanging(wall, 50), 1);
        }
        checks.due("31 safe", x.isSafe(), true);
        checks.due("14 nobody waits", x.cancel(7), 0);
        checks.due("24 empty", x.taken(7, 50), 0);
    }
}
