import java.util.Arrays;
import java.util.function.Supplier;

/** Promises 19 to 21: which works can be taken, and the plans that are found in two ways. */
public final class PlansTest {
    private static final Class<?> INDEX = IndexOutOfBoundsException.class;
    private static final Class<?> STATE = IllegalStateException.class;
    private static final Class<?> NO_PLAN = UnsupportedOperationException.class;

    public static void main(String[] args) {
        Checks checks = new Checks();
        takesUpToTheInsuranceLimit(checks);
        takesUpToTheLongestLoan(checks);
        takesFromTheTravelDaysOn(checks);
        takesAnythingOfTheMuseum(checks);
        takesWhatIsNotAway(checks);
        takesAwayAroundTravelDays(checks);
        takesWhatIsAwayForItself(checks);
        takesForAllButCancelled(checks);
        takesWorksThatAreThere(checks);
        choosesTheFirstPlan(checks);
        goesBackToEarlierWorks(checks);
        usesAllWalls(checks);
        fillsWallsToTheEnd(checks);
        keepsToClimates(checks);
        keepsToSeparations(checks);
        separatesNeighbouringWalls(checks);
        keepsToWhatHangs(checks);
        sumsOnlyWhatHangsTogether(checks);
        looksAtEachDayAndExhibition(checks);
        findsNoPlanIfOneWorkHasNone(checks);
        wallsForWorksThatAreThere(checks);
        wallsForDraftsAndThoseThatWait(checks);
        wallsForDoNotChange(checks);
        checks.end();
    }

    /** A room, and a work that is lent for an exhibition of these days with these numbers. */
    private static LoggiaPlanner lent(int limit, int travel, int longest, int value, int first,
            int last) {
        LoggiaPlanner x = new LoggiaPlanner();
        x.addRoom(50, 50, 400, 400);
        x.addLender(limit, travel, longest);
        x.addWork(1, 0, 100, 100, value, 0);
        Museums.addShow(x, first, last, 0, 0);
        return x;
    }

    /** Whether a work can be taken decides, as all else is right, on a plan, too. */
    private static void takes(Checks checks, String what, boolean due, LoggiaPlanner x) {
        checks.due("19 " + what, x.canTake(0, 0), due);
        if (due) {
            checks.due("20 " + what, x.wallFor(0, 0), 0);
            checks.due("21 " + what, x.wallForBySearch(0, 0), 0);
            checks.due("13 " + what, x.request(0), 'p');
        } else {
            unplanned(checks, what, x, 0);
        }
        checks.due("19 after the request, " + what, x.canTake(0, 0), due);
    }

    /** "Its value is not greater than the insurance limit" */
    private static void takesUpToTheInsuranceLimit(Checks checks) {
        for (int limit : new int[] {1, 2, 100, 998}) {
            takes(checks, "worth the limit", true, lent(limit, 0, 100, limit, 5, 9));
            takes(checks, "worth more than the limit", false, lent(limit, 0, 100, limit + 1, 5, 9));
        }
        takes(checks, "worth less than the limit", true, lent(100, 0, 100, 99, 5, 9));
        takes(checks, "the greatest value", true, lent(999, 0, 100, 999, 5, 9));
        takes(checks, "the greatest limit", true, lent(9999, 0, 100, 999, 5, 9));
    }

    /** "The exhibition has no more days than the longest loan" */
    private static void takesUpToTheLongestLoan(Checks checks) {
        for (int longest : new int[] {1, 2, 50, 90}) {
            int last = 9 + longest - 1;
            takes(checks, "as long as the loan", true, lent(5, 9, longest, 5, 9, last));
            takes(checks, "a day longer", false, lent(5, 9, longest, 5, 9, last + 1));
        }
        takes(checks, "a day shorter", true, lent(5, 0, 5, 5, 0, 3));
        takes(checks, "all days", true, lent(5, 0, 100, 5, 0, 99));
        takes(checks, "all days, for a loan of 99", false, lent(5, 0, 99, 5, 0, 99));
        takes(checks, "the last 99 days", true, lent(5, 0, 99, 5, 1, 99));
    }

    /** "Its first day is not less than the travel days" */
    private static void takesFromTheTravelDaysOn(Checks checks) {
        for (int travel = 0; travel <= 9; travel++) {
            takes(checks, "first day that can be", true, lent(5, travel, 5, 5, travel, travel));
            takes(checks, "a day later", true, lent(5, travel, 5, 5, travel + 1, travel + 2));
            if (travel > 0) {
                takes(checks, "a day earlier", false, lent(5, travel, 5, 5, travel - 1, travel));
                takes(checks, "on the day 0", false, lent(5, travel, 5, 5, 0, 0));
            }
            takes(checks, "may come back late", true, lent(5, travel, 5, 5, 99, 99));
        }
    }

    /** "And, if it belongs to a lender, ...": a work of the museum has none of these limits. */
    private static void takesAnythingOfTheMuseum(Checks checks) {
        LoggiaPlanner x = lent(1, 9, 1, 1, 0, 99);
        x.addWork(1, 0, 100, 100, 999, -1);
        Museums.addShow(x, 0, 99, 0, 1);
        Museums.addShow(x, 0, 99, 0, 1, 0);
        checks.due("19 too long and too early", x.canTake(0, 0), false);
        checks.due("19 of the museum", x.canTake(1, 0), true);
        checks.due("19 of the museum, beside one that cannot be taken", x.canTake(2, 0), true);
        checks.due("19 that one", x.canTake(2, 1), false);
        unplanned(checks, "one of the works cannot be taken", x, 2);
        checks.due("13 of the museum", x.request(1), 'p');
    }

    /** The work 0 travels two days; the work 1 belongs to the museum. */
    private static LoggiaPlanner travelling() {
        LoggiaPlanner x = new LoggiaPlanner();
        x.addRoom(50, 50, 400, 400);
        x.addLender(100, 2, 100);
        x.addWork(1, 0, 100, 100, 100, 0);
        x.addWork(1, 0, 100, 100, 100, -1);
        Museums.addShow(x, 40, 49, 0, 0, 1);
        x.request(0);
        return x;
    }

    private static void takesWhatIsNotAway(Checks checks) {
        LoggiaPlanner x = travelling();
        Museums.addShow(x, 53, 60, 0, 0, 1);
        Museums.addShow(x, 54, 60, 0, 0, 1);
        Museums.addShow(x, 30, 36, 0, 0, 1);
        Museums.addShow(x, 30, 35, 0, 0, 1);
        Museums.addShow(x, 50, 50, 0, 1, 0);
        Museums.addShow(x, 49, 49, 0, 1);
        Museums.addShow(x, 39, 39, 0, 1);
        checks.due("19 planned itself", x.canTake(0, 0), true);
        checks.due("19 still travels", x.canTake(1, 0), false);
        checks.due("19 of the museum", x.canTake(1, 1), true);
        checks.due("19 is back", x.canTake(2, 0), true);
        checks.due("19 travels already", x.canTake(3, 0), false);
        checks.due("19 does not travel yet", x.canTake(4, 0), true);
        checks.due("19 of the museum, a day later", x.canTake(5, 0), true);
        checks.due("19 lent, a day later", x.canTake(5, 1), false);
        checks.due("19 on the last day", x.canTake(6, 0), false);
        checks.due("19 a day before", x.canTake(7, 0), true);
        checks.due("19 waits for the work", x.request(6), 'w');
        checks.due("19 no plan without the work", x.request(1), 'w');
        checks.due("19 all works are needed", x.request(5), 'w');
        x.cancel(0);
        checks.due("19 not away any more", x.stateOf(6), 'p');
        checks.due("19 not away any more", x.stateOf(1), 'p');
        checks.due("19 away for the one before", x.stateOf(5), 'w');
    }

    /** "No work is away for two exhibitions on the same day": travel days count on both sides. */
    private static void takesAwayAroundTravelDays(Checks checks) {
        for (int travel = 0; travel <= 9; travel++) {
            LoggiaPlanner x = lent(5, travel, 100, 5, 40, 49);
            int before = 40 - 2 * travel - 1;
            int after = 49 + 2 * travel + 1;
            Museums.addShow(x, 10, before, 0, 0);
            Museums.addShow(x, 10, before + 1, 0, 0);
            Museums.addShow(x, after, 90, 0, 0);
            Museums.addShow(x, after - 1, 90, 0, 0);
            Museums.addShow(x, 44, 44, 0, 0);
            Museums.addShow(x, 30, 60, 0, 0);
            x.request(0);
            boolean[] due = {true, true, false, true, false, false, false};
            for (int i = 0; i < due.length; i++) {
                checks.due("19 exhibition " + i + ", travel days " + travel, x.canTake(i, 0), due[i]);
            }
            unplanned(checks, "travels on a day of the one before", x, 4);
            unplanned(checks, "travels on a day of the one behind", x, 2);
            planned(checks, "is back a day before", x, 3, 0);
            planned(checks, "leaves a day after", x, 1, 0);
        }
    }

    /** "If it is not away for another one", "others being away as they are" */
    private static void takesWhatIsAwayForItself(Checks checks) {
        LoggiaPlanner x = lent(5, 3, 100, 5, 40, 49);
        Museums.addShow(x, 40, 49, 0, 0);
        x.request(0);
        checks.due("19 away for itself only", x.canTake(0, 0), true);
        checks.due("19 away for the other one", x.canTake(1, 0), false);
        x.request(1);
        checks.due("19 one that waits takes nothing away", x.canTake(0, 0), true);
        x.cancel(0);
        checks.due("19 planned now", x.canTake(1, 0), true);
    }

    /** "Throws IllegalStateException if it was cancelled" */
    private static void takesForAllButCancelled(Checks checks) {
        checks.refused("19 cancelled", STATE, Museums::small, y -> y.canTake(Museums.CANCELLED, 0));
        checks.refused("19 cancelled after it was planned", STATE, Museums::smallCancelled,
                y -> y.canTake(Museums.PLANNED, 3));
        LoggiaPlanner x = Museums.small();
        checks.due("19 planned", x.canTake(Museums.PLANNED, 3), true);
        checks.due("19 waits, as it is away", x.canTake(Museums.WAITING, 0), false);
        checks.due("19 draft", x.canTake(Museums.DRAFT, 0), true);
        checks.due("19 draft, too dear", x.canTake(Museums.LENT_TOO_DEAR, 0), false);
    }

    /** "Throws IndexOutOfBoundsException if the exhibition has no such work" */
    private static void takesWorksThatAreThere(Checks checks) {
        for (int i = 0; i <= 5; i++) {
            int count = i;
            checks.range("19 index of " + count, INDEX, () -> Museums.withFirstWorks(count), 0, count - 1,
                    (x, n) -> x.canTake(0, n));
        }
        checks.refused("19 no works", INDEX, Museums::small,
                x -> x.canTake(Museums.EMPTY_DRAFT, 0));
    }

    /** Asks both ways for the plan of a draft, then for that which the request brings. */
    private static void planned(Checks checks, String what, LoggiaPlanner x, int show, int... due) {
        for (int i = 0; i < due.length; i++) {
            checks.due("21 " + what, x.wallForBySearch(show, i), due[i]);
            checks.due("20 " + what, x.wallFor(show, i), due[i]);
        }
        checks.due("13 " + what, x.request(show), 'p');
        checks.due("18 " + what, Arrays.toString(Museums.wallsOf(x, show)), Arrays.toString(due));
    }

    private static void unplanned(Checks checks, String what, LoggiaPlanner x, int show) {
        checks.due("20 " + what, Checks.thrown(x, y -> y.wallFor(show, 0)), NO_PLAN.getName());
        checks.due("21 " + what, Checks.thrown(x, y -> y.wallForBySearch(show, 0)),
                NO_PLAN.getName());
        checks.due("13 " + what, x.request(show), 'w');
        checks.due("20 waiting, " + what, Checks.thrown(x, y -> y.wallFor(show, 0)),
                NO_PLAN.getName());
        checks.due("21 waiting, " + what, Checks.thrown(x, y -> y.wallForBySearch(show, 0)),
                NO_PLAN.getName());
    }

    private static void choosesTheFirstPlan(Checks checks) {
        LoggiaPlanner x = Museums.withWidths(60, 60, 30, 30, 30);
        Museums.addShow(x, 1, 2, 0, 0, 1, 2);
        planned(checks, "lower walls first", x, 0, 0, 0, 1);
        x = Museums.withWidths(60, 60, 30, 30, 30);
        Museums.addShow(x, 1, 2, 1, 0, 1);
        planned(checks, "each takes the gap", x, 0, 0, 1);
        x = Museums.withWidths(60, 60, 30, 30, 30);
        Museums.addShow(x, 1, 2, 1, 0, 1, 2);
        unplanned(checks, "no wall for the third", x, 0);
    }

    /** The first fit for the first works leaves none for the last one. */
    private static void goesBackToEarlierWorks(Checks checks) {
        LoggiaPlanner x = Museums.withWidths(50, 40, 40, 50);
        Museums.addShow(x, 1, 2, 0, 0, 1);
        planned(checks, "the second needs the first wall", x, 0, 1, 0);
        x = Museums.withWidths(60, 50, 30, 20, 30, 30);
        Museums.addShow(x, 1, 2, 0, 0, 1, 2, 3);
        planned(checks, "the second needs the other wall", x, 0, 0, 1, 0, 1);
    }

    private static void usesAllWalls(Checks checks) {
        LoggiaPlanner x = new LoggiaPlanner();
        for (int i = 0; i < 4; i++) {
            x.addRoom(50, 50, i < 2 ? 9 : 10, i < 1 ? 9 : 10);
        }
        for (int i = 0; i < 6; i++) {
            x.addWork(10, 0, 100, 100, 1, -1);
        }
        Museums.addShow(x, 1, 2, 0, 0, 1, 2, 3, 4);
        Museums.addShow(x, 2, 3, 0, 5);
        planned(checks, "up to the last wall", x, 0, 3, 4, 5, 6, 7);
        unplanned(checks, "all walls are full", x, 1);
        x = Museums.empty();
        x.addWork(1, 0, 100, 100, 1, -1);
        Museums.addShow(x, 1, 2, 0, 0);
        unplanned(checks, "no walls", x, 0);
    }

    /** "All that hang on it take at most its length together", each "its width and the gap". */
    private static void fillsWallsToTheEnd(Checks checks) {
        for (int gap : new int[] {0, 1, 50}) {
            int two = 15 + 25 + 2 * gap;
            for (int length = two - 1; length <= two + 1; length++) {
                LoggiaPlanner x = Museums.withWidths(length, 1, 15, 25);
                Museums.addShow(x, 5, 9, gap, 0, 1);
                if (length >= two) {
                    planned(checks, "two with a gap of " + gap, x, 0, 0, 0);
                    checks.due("24 taken", x.taken(0, 9), two);
                } else {
                    unplanned(checks, "two with a gap of " + gap, x, 0);
                }
            }
        }
        LoggiaPlanner x = Museums.withWidths(400, 400, 30, 30, 30, 30, 30);
        Museums.addShow(x, 5, 9, 50, 0, 1, 2, 3, 4);
        planned(checks, "five of 80 on 400", x, 0, 0, 0, 0, 0, 0);
        x = Museums.withWidths(400, 400, 30, 30, 31, 30, 30);
        Museums.addShow(x, 5, 9, 50, 0, 1, 2, 3, 4);
        planned(checks, "one more than 400", x, 0, 0, 0, 0, 0, 1);
    }

    private static void keepsToClimates(Checks checks) {
        LoggiaPlanner x = new LoggiaPlanner();
        x.addRoom(50, 50, 100, 100);
        x.addRoom(70, 20, 100, 100);
        x.addWork(10, 60, 80, 100, 1, -1);
        x.addWork(10, 0, 100, 30, 1, -1);
        x.addWork(10, 0, 60, 100, 1, -1);
        x.addWork(10, 51, 69, 100, 1, -1);
        Museums.addShow(x, 1, 2, 0, 0, 1, 2);
        Museums.addShow(x, 1, 2, 0, 3);
        planned(checks, "rooms that suit", x, 0, 2, 2, 0);
        unplanned(checks, "no room suits", x, 1);
    }

    private static void keepsToSeparations(Checks checks) {
        LoggiaPlanner x = Museums.withWidths(100, 100, 10, 10, 10, 10);
        x.addRoom(50, 50, 100, 100);
        x.separate(0, 1, 'w');
        x.separate(0, 2, 'r');
        x.separate(3, 2, 'w');
        Museums.addShow(x, 1, 2, 0, 0, 1, 2, 3);
        planned(checks, "apart from those before", x, 0, 0, 1, 2, 0);
        x = Museums.withWidths(100, 100, 10, 10, 10);
        x.separate(0, 1, 'w');
        x.separate(1, 2, 'w');
        x.separate(2, 0, 'w');
        Museums.addShow(x, 1, 2, 0, 0, 1, 2);
        unplanned(checks, "three on two walls", x, 0);
    }

    /** The walls 1 and 2 are neighbours in number, but in two rooms. */
    private static void separatesNeighbouringWalls(Checks checks) {
        for (char kind : new char[] {'r', 'w'}) {
            LoggiaPlanner x = Museums.withWidths(10, 20, 20, 20);
            x.addRoom(50, 50, 20, 20);
            x.separate(0, 1, kind);
            Museums.addShow(x, 1, 2, 0, 0, 1);
            planned(checks, "apart by '" + kind + "'", x, 0, 1, 2);
        }
        LoggiaPlanner x = Museums.withWidths(20, 20, 20, 20);
        x.addRoom(50, 50, 20, 20);
        x.separate(0, 1, 'r');
        Museums.addShow(x, 1, 2, 0, 0, 1);
        planned(checks, "not on the other wall of the room", x, 0, 0, 2);
    }

    private static void keepsToWhatHangs(Checks checks) {
        LoggiaPlanner x = Museums.withWidths(100, 100, 10, 10, 10, 90);
        x.separate(0, 1, 'r');
        x.separate(0, 2, 'w');
        Museums.addShow(x, 5, 9, 1, 0);
        Museums.addShow(x, 9, 12, 1, 1);
        Museums.addShow(x, 1, 5, 1, 2);
        Museums.addShow(x, 7, 7, 0, 3);
        Museums.addShow(x, 1, 4, 0, 1);
        Museums.addShow(x, 10, 10, 0, 2, 1);
        planned(checks, "alone", x, 0, 0);
        unplanned(checks, "the same room on one day", x, 1);
        planned(checks, "the other wall", x, 2, 1);
        planned(checks, "too wide beside what hangs", x, 3, 1);
        planned(checks, "on the days before", x, 4, 0);
        planned(checks, "on the days after", x, 5, 0, 0);
    }

    /** Two that hang on different days do not add up for one that hangs on the days of both. */
    private static void sumsOnlyWhatHangsTogether(Checks checks) {
        LoggiaPlanner x = Museums.withWidths(100, 1, 60, 60, 40, 41, 30, 20);
        Museums.addShow(x, 0, 4, 0, 0);
        Museums.addShow(x, 5, 9, 0, 1);
        Museums.addShow(x, 0, 9, 0, 3);
        Museums.addShow(x, 4, 5, 0, 2);
        Museums.addShow(x, 2, 20, 0, 5);
        Museums.addShow(x, 10, 10, 0, 4);
        x.request(0);
        x.request(1);
        unplanned(checks, "too wide on a day", x, 2);
        planned(checks, "just fits on both days", x, 3, 0);
        unplanned(checks, "too wide on two days in the middle", x, 4);
        planned(checks, "when the others are over", x, 5, 0);
        x = Museums.withWidths(100, 100, 60, 60, 41);
        Museums.addShow(x, 7, 7, 0, 0);
        Museums.addShow(x, 9, 9, 0, 1);
        Museums.addShow(x, 5, 9, 0, 2);
        Museums.addShow(x, 5, 6, 0, 2);
        x.request(0);
        x.request(1);
        planned(checks, "too wide on days after the first", x, 2, 1);
        x.cancel(2);
        planned(checks, "before the others", x, 3, 0);
    }

    /** "With all that hangs on the days of the exhibition": be it for one day and any exhibition. */
    private static void looksAtEachDayAndExhibition(Checks checks) {
        for (int i = 0; i < 8; i++) {
            int asked = (i + 1) % 8;
            for (int day = 3; day <= 8; day++) {
                LoggiaPlanner x = Museums.withWidths(100, 100, 60, 41);
                for (int k = 0; k < 8; k++) {
                    Museums.addShow(x, k == i ? day : 4, k == i ? day : 7, 0, k == i ? 0 : 1);
                }
                x.request(i);
                boolean meets = 4 <= day && day <= 7;
                planned(checks, "60 and 41, on day " + day, x, asked, meets ? 1 : 0);
            }
        }
    }

    /** "It is possible if each work can be taken and can hang": one that cannot is enough. */
    private static void findsNoPlanIfOneWorkHasNone(Checks checks) {
        for (int odd = 0; odd < 5; odd++) {
            LoggiaPlanner x = new LoggiaPlanner();
            x.addRoom(50, 50, 400, 400);
            x.addLender(10, 0, 100);
            for (int i = 0; i < 5; i++) {
                x.addWork(10, 0, i == odd ? 49 : 50, 50, 10, 0);
            }
            for (int i = 0; i < 5; i++) {
                x.addWork(10, 0, 50, 50, i == odd ? 11 : 10, 0);
            }
            Museums.addShow(x, 0, 0, 0, 0, 1, 2, 3, 4);
            Museums.addShow(x, 0, 0, 0, 5, 6, 7, 8, 9);
            unplanned(checks, "work " + odd + " cannot hang", x, 0);
            unplanned(checks, "work " + odd + " cannot be taken", x, 1);
        }
    }

    /** "Throws IndexOutOfBoundsException if the exhibition has no such work" */
    private static void wallsForWorksThatAreThere(Checks checks) {
        for (int i = 0; i <= 5; i++) {
            int count = i;
            checks.range("20 index of " + count, INDEX, () -> Museums.withFirstWorks(count), 0, count - 1,
                    (x, n) -> x.wallFor(0, n));
            checks.range("21 index of " + count, INDEX, () -> Museums.withFirstWorks(count), 0, count - 1,
                    (x, n) -> x.wallForBySearch(0, n));
        }
    }

    private static void wallsFor(Checks checks, String what, Class<?> due,
            Supplier<LoggiaPlanner> start, int show) {
        checks.refused("20 " + what, due, start, x -> x.wallFor(show, 0));
        checks.refused("21 " + what, due, start, x -> x.wallForBySearch(show, 0));
    }

    /** "Throws ... if it is planned or was cancelled", "... if no plan is possible" */
    private static void wallsForDraftsAndThoseThatWait(Checks checks) {
        wallsFor(checks, "planned", STATE, Museums::small, Museums.PLANNED);
        wallsFor(checks, "cancelled", STATE, Museums::small, Museums.CANCELLED);
        wallsFor(checks, "waits", NO_PLAN, Museums::small, Museums.WAITING);
        wallsFor(checks, "cannot be taken", NO_PLAN, Museums::small, Museums.LENT_TOO_DEAR);
        wallsFor(checks, "no walls", NO_PLAN, () -> Museums.counting(0, 0, 1, 1), 0);
        wallsFor(checks, "taken down", NO_PLAN, Museums::smallTakenDown, Museums.PLANNED);
        LoggiaPlanner x = Museums.small();
        checks.due("20 draft", x.wallFor(Museums.DRAFT, 1), 1);
        checks.due("21 draft", x.wallForBySearch(Museums.DRAFT, 1), 1);
    }

    private static void wallsForDoNotChange(Checks checks) {
        LoggiaPlanner x = Museums.withWidths(50, 40, 40, 50);
        Museums.addShow(x, 1, 2, 0, 0, 1);
        for (int i = 0; i < 3; i++) {
            checks.due("20 asked again", x.wallFor(0, 0), 1);
            checks.due("21 asked again", x.wallForBySearch(0, 1), 0);
        }
        checks.due("20 a draft still", x.stateOf(0), 'd');
        checks.due("20 nothing hangs", x.hanging(0, 1) + x.hanging(1, 1), 0);
        checks.due("20 nothing was planned", x.planned(), 0);
        checks.due("20 a work more", x.include(0, x.addWork(10, 0, 100, 100, 1, -1)), 3);
        checks.refused("20 too much now", NO_PLAN, () -> {
            LoggiaPlanner y = Museums.withWidths(50, 40, 40, 50, 10);
            Museums.addShow(y, 1, 2, 1, 0, 1, 2);
            return y;
        }, y -> y.wallFor(0, 0));
    }
}
