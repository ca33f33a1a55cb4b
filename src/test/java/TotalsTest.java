import java.util.function.Supplier;

/** Promises 27 to 29 and 31: totals, and whether all is safe. */
public final class TotalsTest {
    public static void main(String[] args) {
        Checks checks = new Checks();
        countsEachPlanning(checks);
        countsByEachCallThatPlans(checks);
        insuresTravelDays(checks);
        insuresEachDay(checks);
        insuresWhatIsPlannedAndLentOnly(checks);
        insuresTheGreatestSum(checks);
        meanOfPlannedOnes(checks);
        meanOfOneToEight(checks);
        noMeanOfNone(checks);
        staysSafe(checks);
        staysSafeWhenWallsAreFull(checks);
        checks.end();
    }

    private static void countsEachPlanning(Checks checks) {
        LoggiaPlanner x = Museums.withWidths(20, 20, 20, 20, 20);
        Museums.addShow(x, 0, 5, 0, 0, 1);
        Museums.addShow(x, 5, 9, 0, 2);
        checks.due("27 drafts", x.planned(), 0);
        x.wallFor(0, 0);
        x.wallForBySearch(0, 0);
        checks.due("27 questions", x.planned(), 0);
        x.request(0);
        checks.due("27 planned", x.planned(), 1);
        x.request(1);
        checks.due("27 waits", x.planned(), 1);
        x.cancel(0);
        checks.due("27 planned by a cancelling", x.planned(), 2);
        x.cancel(1);
        checks.due("27 cancelling takes nothing away", x.planned(), 2);
    }

    /** "How often exhibitions were planned": one that is planned anew counts again. */
    private static void countsByEachCallThatPlans(Checks checks) {
        LoggiaPlanner x = new LoggiaPlanner();
        x.addWork(10, 0, 50, 50, 1, -1);
        x.addWork(10, 0, 50, 50, 1, -1);
        Museums.addShow(x, 0, 0, 0, 0, 1);
        x.separate(0, 1, 'r');
        x.request(0);
        checks.due("27 waits", x.planned(), 0);
        x.addRoom(50, 50, 20, 20);
        checks.due("27 waits", x.planned(), 0);
        x.separate(0, 1, 'w');
        checks.due("27 by a separation", x.planned(), 1);
        x.setClimate(0, 51, 50);
        checks.due("27 taking down takes nothing away", x.planned(), 1);
        x.setClimate(0, 50, 50);
        checks.due("27 by a climate", x.planned(), 2);
        x.setClimate(0, 50, 51);
        x.addRoom(50, 50, 20, 20);
        checks.due("27 by a room", x.planned(), 3);
        x.setClimate(0, 50, 50);
        x.setClimate(1, 51, 50);
        checks.due("27 taken down and planned in one call", x.planned(), 4);
        checks.due("27 in the other room", x.wallOf(0, 0), 0);
        x.cancel(0);
        Museums.addShow(x, 0, 0, 0, 0, 1);
        x.request(1);
        checks.due("27 by a request", x.planned(), 5);
        Checks.thrown(x, y -> y.request(1));
        checks.due("27 not by a refused request", x.planned(), 5);
    }

    private static LoggiaPlanner lent() {
        LoggiaPlanner x = new LoggiaPlanner();
        x.addRoom(50, 50, 400, 400);
        x.addLender(999, 9, 100);
        x.addLender(500, 0, 100);
        x.addWork(1, 0, 100, 100, 999, 0);
        x.addWork(1, 0, 100, 100, 500, 1);
        x.addWork(1, 0, 100, 100, 700, -1);
        Museums.addShow(x, 9, 99, 0, 0, 2);
        Museums.addShow(x, 4, 4, 0, 1);
        Museums.addShow(x, 99, 99, 0, 0);
        return x;
    }

    private static void insuresTravelDays(Checks checks) {
        LoggiaPlanner x = lent();
        checks.due("28 drafts", x.insured(), 0L);
        x.request(1);
        checks.due("28 one day", x.insured(), 500L);
        x.request(0);
        checks.due("28 travels after the day 99, too", x.insured(), 500L + 999L * (91 + 18));
        x.request(2);
        checks.due("28 waits", x.insured(), 500L + 999L * (91 + 18));
        x.cancel(0);
        checks.due("28 another one", x.insured(), 500L + 999L * 19);
        x.cancel(1);
        x.cancel(2);
        checks.due("28 cancelled", x.insured(), 0L);
    }

    private static LoggiaPlanner lentOnDays(int travel, int value, int lender, int first, int last) {
        LoggiaPlanner x = new LoggiaPlanner();
        x.addRoom(50, 50, 400, 400);
        x.addLender(999, travel, 100);
        x.addWork(1, 0, 100, 100, value, lender);
        Museums.addShow(x, first, last, 0, 0);
        x.request(0);
        return x;
    }

    /** "Its value times the days on which it is away": no travel day, and as many as can be. */
    private static void insuresEachDay(Checks checks) {
        checks.due("28 one day, no travel", lentOnDays(0, 1, 0, 0, 0).insured(), 1L);
        checks.due("28 all days", lentOnDays(0, 1, 0, 0, 99).insured(), 100L);
        checks.due("28 the greatest value", lentOnDays(0, 999, 0, 0, 99).insured(), 99900L);
        for (int travel = 0; travel <= 9; travel++) {
            checks.due("28 from the first day", lentOnDays(travel, 7, 0, travel, travel).insured(),
                    7L * (1 + 2 * travel));
            checks.due("28 up to the day 99", lentOnDays(travel, 7, 0, 98, 99).insured(),
                    7L * (2 + 2 * travel));
        }
    }

    /** "For each exhibition that is planned, and each work of it that belongs to a lender" */
    private static void insuresWhatIsPlannedAndLentOnly(Checks checks) {
        checks.due("28 empty", Museums.empty().insured(), 0L);
        checks.due("28 of the museum", lentOnDays(9, 999, -1, 0, 99).insured(), 0L);
        checks.due("28 waits, too early for the travel", lentOnDays(9, 999, 0, 8, 9).insured(), 0L);
        LoggiaPlanner x = lentOnDays(9, 999, 0, 9, 9);
        checks.due("28 planned", x.insured(), 999L * 19);
        x.setClimate(0, 50, 100);
        checks.due("28 still planned", x.insured(), 999L * 19);
        checks.due("28 small", Museums.small().insured(), 240L * (11 + 6));
        x = Museums.small();
        x.setClimate(1, 0, 100);
        checks.due("28 taken down", x.insured(), 0L);
    }

    /** All 12 works, lent as dear, as far and as long as can be. */
    private static void insuresTheGreatestSum(Checks checks) {
        LoggiaPlanner x = new LoggiaPlanner();
        x.addRoom(50, 50, 400, 400);
        x.addLender(9999, 9, 100);
        for (int i = 0; i < 12; i++) {
            x.addWork(1, 0, 100, 100, 999, 0);
        }
        Museums.addShow(x, 9, 99, 0, 0, 1, 2, 3, 4);
        Museums.addShow(x, 9, 99, 0, 5, 6, 7, 8, 9);
        Museums.addShow(x, 9, 99, 0, 10, 11);
        for (int i = 0; i < 3; i++) {
            x.request(i);
        }
        checks.due("28 all", x.insured(), 12L * 999 * 109);
    }

    private static void meanOfPlannedOnes(Checks checks) {
        LoggiaPlanner x = lent();
        x.request(0);
        checks.due("29 two works", x.meanWorks(), 2.0);
        x.request(1);
        checks.due("29 two and one", x.meanWorks(), 1.5);
        x.request(2);
        checks.due("29 waiting ones do not count", x.meanWorks(), 1.5);
        x.cancel(0);
        checks.due("29 one and one", x.meanWorks(), 1.0);
        x = Museums.withWidths(400, 400, 1, 1, 1, 1, 1);
        Museums.addShow(x, 0, 0, 0, 0, 1, 2, 3, 4);
        Museums.addShow(x, 1, 1, 0, 0);
        Museums.addShow(x, 2, 2, 0, 0);
        for (int i = 0; i < 3; i++) {
            x.request(i);
        }
        checks.due("29 thirds", x.meanWorks(), 7.0 / 3.0);
    }

    /** "Divided by that of these exhibitions": from one exhibition to all 8. */
    private static void meanOfOneToEight(Checks checks) {
        LoggiaPlanner x = Museums.withWidths(400, 400, 1, 1, 1, 1, 1);
        int works = 0;
        for (int i = 0; i < 8; i++) {
            x.addExhibition(i, i, 0);
            for (int k = 0; k <= i % 5; k++) {
                x.include(i, k);
                works++;
            }
            x.request(i);
            checks.due("29 of " + (i + 1), x.meanWorks(), (double) works / (double) (i + 1));
        }
        for (int i = 0; i < 7; i++) {
            x.cancel(i);
        }
        checks.due("29 of the last one", x.meanWorks(), 3.0);
    }

    /** "Throws ArithmeticException if none is planned" */
    private static void noMeanOfNone(Checks checks) {
        noMean(checks, "nothing", Museums::empty);
        noMean(checks, "a draft without works", () -> Museums.counting(1, 0, 0, 1));
        noMean(checks, "drafts", TotalsTest::lent);
        noMean(checks, "one that waits", () -> {
            LoggiaPlanner x = Museums.counting(0, 0, 1, 1);
            x.request(0);
            return x;
        });
        noMean(checks, "one that was cancelled", () -> {
            LoggiaPlanner x = Museums.counting(1, 0, 1, 1);
            x.request(0);
            x.cancel(0);
            return x;
        });
        noMean(checks, "one that was taken down", Museums::smallTakenDown);
    }

    private static void noMean(Checks checks, String what, Supplier<LoggiaPlanner> start) {
        checks.refused("29 " + what, ArithmeticException.class, start, LoggiaPlanner::meanWorks);
    }

    /** No run of calls makes this false; BrokenInsideTest looks at what it finds. */
    private static void staysSafe(Checks checks) {
        checks.due("31 empty", Museums.empty().isSafe(), true);
        LoggiaPlanner x = Museums.small();
        checks.due("31 small", x.isSafe(), true);
        x.setClimate(0, 70, 50);
        checks.due("31 taken down", x.isSafe(), true);
        x.setClimate(0, 50, 50);
        checks.due("31 planned anew", x.isSafe(), true);
        x.cancel(Museums.PLANNED);
        checks.due("31 cancelled", x.isSafe(), true);
        x = Museums.full();
        for (int i = 0; i < 8; i++) {
            x.request(i);
            checks.due("31 full", x.isSafe(), true);
        }
        checks.due("31 asking plans nothing", x.planned(), 3);
    }

    private static void staysSafeWhenWallsAreFull(Checks checks) {
        LoggiaPlanner x = Museums.withWidths(40, 1, 20, 20, 20);
        x.separate(0, 1, 'w');
        Museums.addShow(x, 0, 99, 0, 0);
        Museums.addShow(x, 0, 0, 0, 2);
        Museums.addShow(x, 99, 99, 0, 2);
        Museums.addShow(x, 1, 98, 0, 1);
        for (int i = 0; i < 4; i++) {
            checks.due("31 planned", x.request(i), i < 3 ? 'p' : 'w');
            checks.due("31 a wall is full, or one waits", x.isSafe(), true);
        }
    }
}
