import java.util.Arrays;
import java.util.NoSuchElementException;

/** Promises 19 to 21: which works can be taken, and the plans that are found in two ways. */
public final class PlansTest {
    private static final Class<?> INDEX = IndexOutOfBoundsException.class;
    private static final Class<?> MISSING = NoSuchElementException.class;
    private static final Class<?> STATE = IllegalStateException.class;
    private static final Class<?> NO_PLAN = UnsupportedOperationException.class;

    public static void main(String[] args) {
        Checks checks = new Checks();
        takesFromLenders(checks);
        takesWhatIsNotAway(checks);
        canTakeRefuses(checks);
        choosesTheFirstPlan(checks);
        goesBackToEarlierWorks(checks);
        usesAllWalls(checks);
        keepsToClimates(checks);
        keepsToSeparations(checks);
        keepsToWhatHangs(checks);
        sumsOnlyWhatHangsTogether(checks);
        wallForRefuses(checks);
        checks.end();
    }

    private static void takesFromLenders(Checks checks) {
        LoggiaPlanner x = new LoggiaPlanner();
        x.addLender(100, 4, 10);
        x.addWork(1, 0, 100, 100, 100, 0);
        x.addWork(1, 0, 100, 100, 101, 0);
        x.addWork(1, 0, 100, 100, 999, -1);
        Museums.addShow(x, 4, 13, 0, 0, 1, 2);
        Museums.addShow(x, 4, 14, 0, 0, 2);
        Museums.addShow(x, 3, 3, 0, 0, 2);
        Museums.addShow(x, 90, 99, 0, 0);
        checks.due("19 at all limits", x.canTake(0, 0), true);
        checks.due("19 too dear", x.canTake(0, 1), false);
        checks.due("19 of the museum", x.canTake(0, 2), true);
        checks.due("19 too long", x.canTake(1, 0), false);
        checks.due("19 of the museum", x.canTake(1, 1), true);
        checks.due("19 too early", x.canTake(2, 0), false);
        checks.due("19 of the museum", x.canTake(2, 1), true);
        checks.due("19 may come back late", x.canTake(3, 0), true);
        checks.due("19 waits without rooms", x.request(3), 'w');
        checks.due("19 while it waits", x.canTake(3, 0), true);
    }

    /** The work 0 travels two days; the work 1 belongs to the museum. */
    private static LoggiaPlanner travelling() {
        LoggiaPlanner x = new LoggiaPlanner();
        x.addRoom(50, 50, 400, 400);
        x.addLender(100, 2, 100);
        x.addWork(1, 0, 100, 100, 100, 0);
        x.addWork(1, 0, 100, 100, 100, -1);
        Museums.addShow(x, 40, 49, 0, 0, 1);
        x.request(0);
        return x;
    }

    private static void takesWhatIsNotAway(Checks checks) {
        LoggiaPlanner x = travelling();
        Museums.addShow(x, 53, 60, 0, 0, 1);
        Museums.addShow(x, 54, 60, 0, 0, 1);
        Museums.addShow(x, 30, 36, 0, 0, 1);
        Museums.addShow(x, 30, 35, 0, 0, 1);
        Museums.addShow(x, 50, 50, 0, 1, 0);
        Museums.addShow(x, 49, 49, 0, 1);
        Museums.addShow(x, 39, 39, 0, 1);
        checks.due("19 planned itself", x.canTake(0, 0), true);
        checks.due("19 still travels", x.canTake(1, 0), false);
        checks.due("19 of the museum", x.canTake(1, 1), true);
        checks.due("19 is back", x.canTake(2, 0), true);
        checks.due("19 travels already", x.canTake(3, 0), false);
        checks.due("19 does not travel yet", x.canTake(4, 0), true);
        checks.due("19 of the museum, a day later", x.canTake(5, 0), true);
        checks.due("19 lent, a day later", x.canTake(5, 1), false);
        checks.due("19 on the last day", x.canTake(6, 0), false);
        checks.due("19 a day before", x.canTake(7, 0), true);
        checks.due("19 waits for the work", x.request(6), 'w');
        checks.due("19 no plan without the work", x.request(1), 'w');
        checks.due("19 all works are needed", x.request(5), 'w');
        x.cancel(0);
        checks.due("19 not away any more", x.stateOf(6), 'p');
        checks.due("19 not away any more", x.stateOf(1), 'p');
        checks.due("19 away for the one before", x.stateOf(5), 'w');
    }

    private static void canTakeRefuses(Checks checks) {
        checks.refused("19 missing", MISSING, Museums::small, y -> y.canTake(-1, 99));
        checks.refused("19 missing", MISSING, Museums::small, y -> y.canTake(6, 0));
        checks.refused("19 index", INDEX, Museums::small, y -> y.canTake(Museums.PLANNED, 4));
        checks.refused("19 index", INDEX, Museums::small, y -> y.canTake(Museums.PLANNED, -1));
        checks.refused("19 index first", INDEX, Museums::small,
                y -> y.canTake(Museums.CANCELLED, 1));
        checks.refused("19 cancelled", STATE, Museums::small, y -> y.canTake(Museums.CANCELLED, 0));
    }

    /** Asks both ways for the plan of a draft, then for that which the request brings. */
    private static void planned(Checks checks, String what, LoggiaPlanner x, int show, int... due) {
        for (int i = 0; i < due.length; i++) {
            checks.due("21 " + what, x.wallForBySearch(show, i), due[i]);
            checks.due("20 " + what, x.wallFor(show, i), due[i]);
        }
        checks.due("13 " + what, x.request(show), 'p');
        checks.due("18 " + what, Arrays.toString(Museums.wallsOf(x, show)), Arrays.toString(due));
    }

    private static void unplanned(Checks checks, String what, LoggiaPlanner x, int show) {
        checks.due("20 " + what, Checks.thrown(x, y -> y.wallFor(show, 0)), NO_PLAN.getName());
        checks.due("21 " + what, Checks.thrown(x, y -> y.wallForBySearch(show, 0)),
                NO_PLAN.getName());
        checks.due("13 " + what, x.request(show), 'w');
        checks.due("20 waiting, " + what, Checks.thrown(x, y -> y.wallFor(show, 0)),
                NO_PLAN.getName());
        checks.due("21 waiting, " + what, Checks.thrown(x, y -> y.wallForBySearch(show, 0)),
                NO_PLAN.getName());
    }

    private static void choosesTheFirstPlan(Checks checks) {
        LoggiaPlanner x = Museums.withWidths(60, 60, 30, 30, 30);
        Museums.addShow(x, 1, 2, 0, 0, 1, 2);
        planned(checks, "lower walls first", x, 0, 0, 0, 1);
        x = Museums.withWidths(60, 60, 30, 30, 30);
        Museums.addShow(x, 1, 2, 1, 0, 1);
        planned(checks, "each takes the gap", x, 0, 0, 1);
        x = Museums.withWidths(60, 60, 30, 30, 30);
        Museums.addShow(x, 1, 2, 1, 0, 1, 2);
        unplanned(checks, "no wall for the third", x, 0);
    }

    /** The first fit for the first works leaves none for the last one. */
    private static void goesBackToEarlierWorks(Checks checks) {
        LoggiaPlanner x = Museums.withWidths(50, 40, 40, 50);
        Museums.addShow(x, 1, 2, 0, 0, 1);
        planned(checks, "the second needs the first wall", x, 0, 1, 0);
        x = Museums.withWidths(60, 50, 30, 20, 30, 30);
        Museums.addShow(x, 1, 2, 0, 0, 1, 2, 3);
        planned(checks, "the second needs the other wall", x, 0, 0, 1, 0, 1);
    }

    private static void usesAllWalls(Checks checks) {
        LoggiaPlanner x = new LoggiaPlanner();
        for (int i = 0; i < 4; i++) {
            x.addRoom(50, 50, i < 2 ? 9 : 10, i < 1 ? 9 : 10);
        }
        for (int i = 0; i < 6; i++) {
            x.addWork(10, 0, 100, 100, 1, -1);
        }
        Museums.addShow(x, 1, 2, 0, 0, 1, 2, 3, 4);
        Museums.addShow(x, 2, 3, 0, 5);
        planned(checks, "up to the last wall", x, 0, 3, 4, 5, 6, 7);
        unplanned(checks, "all walls are full", x, 1);
        x = Museums.empty();
        x.addWork(1, 0, 100, 100, 1, -1);
        Museums.addShow(x, 1, 2, 0, 0);
        unplanned(checks, "no walls", x, 0);
    }

    private static void keepsToClimates(Checks checks) {
        LoggiaPlanner x = new LoggiaPlanner();
        x.addRoom(50, 50, 100, 100);
        x.addRoom(70, 20, 100, 100);
        x.addWork(10, 60, 80, 100, 1, -1);
        x.addWork(10, 0, 100, 30, 1, -1);
        x.addWork(10, 0, 60, 100, 1, -1);
        x.addWork(10, 51, 69, 100, 1, -1);
        Museums.addShow(x, 1, 2, 0, 0, 1, 2);
        Museums.addShow(x, 1, 2, 0, 3);
        planned(checks, "rooms that suit", x, 0, 2, 2, 0);
        unplanned(checks, "no room suits", x, 1);
    }

    private static void keepsToSeparations(Checks checks) {
        LoggiaPlanner x = Museums.withWidths(100, 100, 10, 10, 10, 10);
        x.addRoom(50, 50, 100, 100);
        x.separate(0, 1, 'w');
        x.separate(0, 2, 'r');
        x.separate(3, 2, 'w');
        Museums.addShow(x, 1, 2, 0, 0, 1, 2, 3);
        planned(checks, "apart from those before", x, 0, 0, 1, 2, 0);
        x = Museums.withWidths(100, 100, 10, 10, 10);
        x.separate(0, 1, 'w');
        x.separate(1, 2, 'w');
        x.separate(2, 0, 'w');
        Museums.addShow(x, 1, 2, 0, 0, 1, 2);
        unplanned(checks, "three on two walls", x, 0);
    }

    private static void keepsToWhatHangs(Checks checks) {
        LoggiaPlanner x = Museums.withWidths(100, 100, 10, 10, 10, 90);
        x.separate(0, 1, 'r');
        x.separate(0, 2, 'w');
        Museums.addShow(x, 5, 9, 1, 0);
        Museums.addShow(x, 9, 12, 1, 1);
        Museums.addShow(x, 1, 5, 1, 2);
        Museums.addShow(x, 7, 7, 0, 3);
        Museums.addShow(x, 1, 4, 0, 1);
        Museums.addShow(x, 10, 10, 0, 2, 1);
        planned(checks, "alone", x, 0, 0);
        unplanned(checks, "the same room on one day", x, 1);
        planned(checks, "the other wall", x, 2, 1);
        planned(checks, "too wide beside what hangs", x, 3, 1);
        planned(checks, "on the days before", x, 4, 0);
        planned(checks, "on the days after", x, 5, 0, 0);
    }

    /** Two that hang on different days do not add up for one that hangs on the days of both. */
    private static void sumsOnlyWhatHangsTogether(Checks checks) {
        LoggiaPlanner x = Museums.withWidths(100, 1, 60, 60, 40, 41, 30, 20);
        Museums.addShow(x, 0, 4, 0, 0);
        Museums.addShow(x, 5, 9, 0, 1);
        Museums.addShow(x, 0, 9, 0, 3);
        Museums.addShow(x, 4, 5, 0, 2);
        Museums.addShow(x, 2, 20, 0, 5);
        Museums.addShow(x, 10, 10, 0, 4);
        x.request(0);
        x.request(1);
        unplanned(checks, "too wide on a day", x, 2);
        planned(checks, "just fits on both days", x, 3, 0);
        unplanned(checks, "too wide on two days in the middle", x, 4);
        planned(checks, "when the others are over", x, 5, 0);
        x = Museums.withWidths(100, 100, 60, 60, 41);
        Museums.addShow(x, 7, 7, 0, 0);
        Museums.addShow(x, 9, 9, 0, 1);
        Museums.addShow(x, 5, 9, 0, 2);
        Museums.addShow(x, 5, 6, 0, 2);
        x.request(0);
        x.request(1);
        planned(checks, "too wide on days after the first", x, 2, 1);
        x.cancel(2);
        planned(checks, "before the others", x, 3, 0);
    }

    private static void wallForRefuses(Checks checks) {
        checks.refused("20 missing", MISSING, Museums::small, y -> y.wallFor(6, 99));
        checks.refused("20 missing", MISSING, Museums::small, y -> y.wallFor(-1, 0));
        checks.refused("20 index", INDEX, Museums::small, y -> y.wallFor(Museums.DRAFT, 2));
        checks.refused("20 index", INDEX, Museums::small, y -> y.wallFor(Museums.DRAFT, -1));
        checks.refused("20 index first", INDEX, Museums::small, y -> y.wallFor(Museums.PLANNED, 4));
        checks.refused("20 no works", INDEX, Museums::small,
                y -> y.wallFor(Museums.EMPTY_DRAFT, 0));
        checks.refused("20 planned", STATE, Museums::small, y -> y.wallFor(Museums.PLANNED, 0));
        checks.refused("20 cancelled", STATE, Museums::small, y -> y.wallFor(Museums.CANCELLED, 0));
        checks.refused("20 waits", NO_PLAN, Museums::small, y -> y.wallFor(Museums.WAITING, 0));
        checks.refused("20 cannot be taken", NO_PLAN, Museums::small,
                y -> y.wallFor(Museums.LENT_TOO_DEAR, 0));
        checks.refused("21 missing", MISSING, Museums::small, y -> y.wallForBySearch(6, 99));
        checks.refused("21 missing", MISSING, Museums::small, y -> y.wallForBySearch(-1, 0));
        checks.refused("21 index", INDEX, Museums::small,
                y -> y.wallForBySearch(Museums.DRAFT, 2));
        checks.refused("21 index", INDEX, Museums::small,
                y -> y.wallForBySearch(Museums.DRAFT, -1));
        checks.refused("21 index first", INDEX, Museums::small,
                y -> y.wallForBySearch(Museums.PLANNED, 4));
        checks.refused("21 planned", STATE, Museums::small,
                y -> y.wallForBySearch(Museums.PLANNED, 0));
        checks.refused("21 cancelled", STATE, Museums::small,
                y -> y.wallForBySearch(Museums.CANCELLED, 0));
        checks.refused("21 waits", NO_PLAN, Museums::small,
                y -> y.wallForBySearch(Museums.WAITING, 0));
        checks.refused("21 cannot be taken", NO_PLAN, Museums::small,
                y -> y.wallForBySearch(Museums.LENT_TOO_DEAR, 0));
    }
}
