/** Promises 27 to 29 and 31: totals, and whether all is safe. */
public final class TotalsTest {
    public static void main(String[] args) {
        Checks checks = new Checks();
        countsEachPlanning(checks);
        insuresTravelDays(checks);
        meanOfPlannedOnes(checks);
        staysSafe(checks);
        checks.end();
    }

    private static void countsEachPlanning(Checks checks) {
        LoggiaPlanner x = Museums.withWidths(20, 20, 20, 20, 20);
        Museums.addShow(x, 0, 5, 0, 0, 1);
        Museums.addShow(x, 5, 9, 0, 2);
        checks.due("27 drafts", x.planned(), 0);
        x.wallFor(0, 0);
        x.wallForBySearch(0, 0);
        checks.due("27 questions", x.planned(), 0);
        x.request(0);
        checks.due("27 planned", x.planned(), 1);
        x.request(1);
        checks.due("27 waits", x.planned(), 1);
        x.cancel(0);
        checks.due("27 planned by a cancelling", x.planned(), 2);
        x.cancel(1);
        checks.due("27 cancelling takes nothing away", x.planned(), 2);
    }

    private static LoggiaPlanner lent() {
        LoggiaPlanner x = new LoggiaPlanner();
        x.addRoom(50, 50, 400, 400);
        x.addLender(999, 9, 100);
        x.addLender(500, 0, 100);
        x.addWork(1, 0, 100, 100, 999, 0);
        x.addWork(1, 0, 100, 100, 500, 1);
        x.addWork(1, 0, 100, 100, 700, -1);
        Museums.addShow(x, 9, 99, 0, 0, 2);
        Museums.addShow(x, 4, 4, 0, 1);
        Museums.addShow(x, 99, 99, 0, 0);
        return x;
    }

    private static void insuresTravelDays(Checks checks) {
        LoggiaPlanner x = lent();
        checks.due("28 drafts", x.insured(), 0L);
        x.request(1);
        checks.due("28 one day", x.insured(), 500L);
        x.request(0);
        checks.due("28 travels after the day 99, too", x.insured(), 500L + 999L * (91 + 18));
        x.request(2);
        checks.due("28 waits", x.insured(), 500L + 999L * (91 + 18));
        x.cancel(0);
        checks.due("28 another one", x.insured(), 500L + 999L * 19);
        x.cancel(1);
        x.cancel(2);
        checks.due("28 cancelled", x.insured(), 0L);
    }

    private static void meanOfPlannedOnes(Checks checks) {
        Class<?> none = ArithmeticException.class;
        checks.refused("29 drafts only", none, TotalsTest::lent, LoggiaPlanner::meanWorks);
        checks.refused("29 nothing", none, Museums::empty, LoggiaPlanner::meanWorks);
        LoggiaPlanner x = lent();
        x.request(0);
        checks.due("29 two works", x.meanWorks(), 2.0);
        x.request(1);
        checks.due("29 two and one", x.meanWorks(), 1.5);
        x.request(2);
        checks.due("29 waiting ones do not count", x.meanWorks(), 1.5);
        x.cancel(0);
        checks.due("29 one and one", x.meanWorks(), 1.0);
        x = Museums.withWidths(400, 400, 1, 1, 1, 1, 1);
        Museums.addShow(x, 0, 0, 0, 0, 1, 2, 3, 4);
        Museums.addShow(x, 1, 1, 0, 0);
        Museums.addShow(x, 2, 2, 0, 0);
        for (int i = 0; i < 3; i++) {
            x.request(i);
        }
        checks.due("29 thirds", x.meanWorks(), 7.0 / 3.0);
    }

    /** No run of calls makes this false; BrokenInsideTest looks at what it finds. */
    private static void staysSafe(Checks checks) {
        checks.due("31 empty", Museums.empty().isSafe(), true);
        LoggiaPlanner x = Museums.small();
        checks.due("31 small", x.isSafe(), true);
        x.setClimate(0, 70, 50);
        checks.due("31 taken down", x.isSafe(), true);
        x.setClimate(0, 50, 50);
        checks.due("31 planned anew", x.isSafe(), true);
        x.cancel(Museums.PLANNED);
        checks.due("31 cancelled", x.isSafe(), true);
        x = Museums.full();
        for (int i = 0; i < 8; i++) {
            x.request(i);
            checks.due("31 full", x.isSafe(), true);
        }
        checks.due("31 asking plans nothing", x.planned(), 3);
    }
}
