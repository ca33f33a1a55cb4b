import java.util.function.Supplier;

/** Promises 4, 5 and 8: lenders and works. */
public final class LendersAndWorksTest {
    private static final Class<?> RANGE = IllegalArgumentException.class;
    private static final Class<?> STATE = IllegalStateException.class;

    public static void main(String[] args) {
        Checks checks = new Checks();
        addLenderTakesNumbersInRange(checks);
        addLenderTakesFourLenders(checks);
        addLenderKeepsEachLendersNumbers(checks);
        addLenderPlansNothing(checks);
        addWorkTakesNumbersInRange(checks);
        addWorkTakesAnOrderedRange(checks);
        addWorkTakesLendersThatAreThere(checks);
        addWorkTakesTwelveWorks(checks);
        addWorkUsesTheExtremes(checks);
        addWorkPlansNothing(checks);
        works(checks);
        checks.end();
    }

    /** "A limit from 1 to 9999, travel days from 0 to 9, and a longest loan from 1 to 100 days." */
    private static void addLenderTakesNumbersInRange(Checks checks) {
        for (Supplier<LoggiaPlanner> start : Museums.emptyAndSmall()) {
            checks.range("4 limit", RANGE, start, 1, 9999, (x, n) -> x.addLender(n, 5, 50));
            checks.range("4 days", RANGE, start, 0, 9, (x, n) -> x.addLender(500, n, 50));
            checks.range("4 longest", RANGE, start, 1, 100, (x, n) -> x.addLender(500, 5, n));
        }
        checks.taken("4 all least numbers", Museums::empty, x -> x.addLender(1, 0, 1));
        checks.taken("4 all greatest numbers", Museums::empty, x -> x.addLender(9999, 9, 100));
    }

    /** "At most 4 lenders exist, numbered from 0." "Throws ... if there are 4 lenders" */
    private static void addLenderTakesFourLenders(Checks checks) {
        for (int i = 0; i < 4; i++) {
            checks.due("4 lender " + i, Museums.counting(0, i, 0, 0).addLender(5, 5, 5), i);
            checks.due("4 lender " + i + " beside all others",
                    Museums.counting(4, i, 12, 8).addLender(5, 5, 5), i);
        }
        checks.refused("4 fifth lender", STATE, () -> Museums.counting(1, 4, 1, 1),
                x -> x.addLender(5, 5, 5));
        checks.refused("4 fifth lender", STATE, Museums::full, x -> x.addLender(1, 0, 1));
    }

    /** Each sends a work of 100 for 10 days from day 5 on; only the last lender lends it so. */
    private static void addLenderKeepsEachLendersNumbers(Checks checks) {
        LoggiaPlanner x = Museums.empty();
        x.addLender(99, 5, 10);
        x.addLender(100, 6, 10);
        x.addLender(100, 5, 9);
        x.addLender(100, 5, 10);
        x.addExhibition(5, 14, 0);
        for (int i = 0; i < 4; i++) {
            x.include(0, x.addWork(1, 0, 100, 100, 100, i));
            checks.due("4 lent by " + i, x.canTake(0, i), i == 3);
        }
    }

    private static void addLenderPlansNothing(Checks checks) {
        LoggiaPlanner x = Museums.small();
        checks.due("4 adds", x.addLender(9999, 0, 100), 2);
        checks.due("4 still waits", x.stateOf(Museums.WAITING), 'w');
        checks.due("4 times", x.planned(), 1);
    }

    /** "A width from 1 to 200", "light ... 0 to 100", "and a value from 1 to 999" */
    private static void addWorkTakesNumbersInRange(Checks checks) {
        for (Supplier<LoggiaPlanner> start : Museums.emptyAndSmall()) {
            checks.range("5 width", RANGE, start, 1, 200, (x, n) -> x.addWork(n, 5, 50, 5, 5, -1));
            checks.range("5 light", RANGE, start, 0, 100, (x, n) -> x.addWork(5, 5, 50, n, 5, -1));
            checks.range("5 value", RANGE, start, 1, 999, (x, n) -> x.addWork(5, 5, 50, 5, n, -1));
        }
        checks.taken("5 all least numbers", Museums::empty, x -> x.addWork(1, 0, 0, 0, 1, -1));
        checks.taken("5 all greatest numbers", () -> Museums.counting(4, 4, 11, 8),
                x -> x.addWork(200, 100, 100, 100, 999, 3));
    }

    /** "The least humidity ..., 0 to 100", "the greatest ..., from the least one to 100" */
    private static void addWorkTakesAnOrderedRange(Checks checks) {
        for (Supplier<LoggiaPlanner> start : Museums.emptyAndSmall()) {
            for (int i : new int[] {0, 1, 49, 99, 100}) {
                int edge = i;
                checks.range("5 low, to " + edge, RANGE, start, 0, edge,
                        (x, n) -> x.addWork(5, n, edge, 5, 5, -1));
                checks.range("5 high, from " + edge, RANGE, start, edge, 100,
                        (x, n) -> x.addWork(5, edge, n, 5, 5, -1));
            }
            checks.refused("5 both too small", RANGE, start, x -> x.addWork(5, -1, -1, 5, 5, -1));
            checks.refused("5 both too large", RANGE, start, x -> x.addWork(5, 101, 101, 5, 5, -1));
        }
    }

    /** "The number of its lender, or -1 if it belongs to the museum", "no such lender" */
    private static void addWorkTakesLendersThatAreThere(Checks checks) {
        for (int i = 0; i <= 4; i++) {
            int count = i;
            checks.range("5 lender of " + count, RANGE, () -> Museums.counting(4, count, 11, 8), -1,
                    count - 1, (x, n) -> x.addWork(5, 5, 50, 5, 5, n));
        }
        checks.range("5 lender", RANGE, Museums::empty, -1, -1,
                (x, n) -> x.addWork(5, 5, 50, 5, 5, n));
        checks.range("5 lender", RANGE, Museums::small, -1, 1,
                (x, n) -> x.addWork(5, 5, 50, 5, 5, n));
    }

    /** "At most 12 works exist, numbered from 0." "Throws ... if there are 12 works" */
    private static void addWorkTakesTwelveWorks(Checks checks) {
        for (int i = 0; i < 12; i++) {
            checks.due("5 work " + i,
                    Museums.counting(0, 0, i, 0).addWork(5, 5, 50, 5, 5, -1), i);
            checks.due("5 work " + i + " beside all others",
                    Museums.counting(4, 4, i, 8).addWork(5, 5, 50, 5, 5, 3), i);
        }
        checks.refused("5 thirteenth work", STATE, () -> Museums.counting(1, 0, 12, 0),
                x -> x.addWork(5, 5, 50, 5, 5, -1));
        checks.refused("5 thirteenth work", STATE, Museums::full,
                x -> x.addWork(5, 5, 50, 5, 5, 3));
    }

    private static void addWorkUsesTheExtremes(Checks checks) {
        LoggiaPlanner x = Museums.empty();
        x.addRoom(0, 0, 201, 1);
        x.addLender(9999, 0, 100);
        x.addWork(1, 0, 0, 0, 1, 0);
        x.addWork(200, 0, 100, 100, 999, 0);
        Museums.addShow(x, 0, 0, 0, 0, 1);
        Museums.addShow(x, 1, 1, 0, 1);
        checks.due("5 planned", x.request(0), 'p');
        checks.due("5 width 1 and width 200", x.taken(0, 0), 201);
        checks.due("5 value 1 and value 999", x.insured(), 1000L);
        checks.due("5 planned", x.request(1), 'p');
        checks.due("5 width 200", x.taken(0, 1), 200);
        checks.due("5 value 999", x.insured(), 1999L);
        checks.due("5 stands humidity 0, light 0", x.canHang(0, 0), true);
        checks.due("5 all are taken down", x.setClimate(0, 1, 0), 1);
        checks.due("5 does not stand humidity 1", x.canHang(0, 0), false);
        x.setClimate(0, 0, 1);
        checks.due("5 does not stand light 1", x.canHang(0, 0), false);
        x.setClimate(0, 100, 100);
        checks.due("5 stands humidity 100, light 100", x.canHang(1, 0), true);
    }

    private static void addWorkPlansNothing(Checks checks) {
        LoggiaPlanner x = Museums.small();
        checks.due("5 adds", x.addWork(1, 0, 100, 100, 1, -1), 5);
        checks.due("5 still waits", x.stateOf(Museums.WAITING), 'w');
        checks.due("5 times", x.planned(), 1);
    }

    /** "Returns the number of works." From 0 to 12; a refused one does not count. */
    private static void works(Checks checks) {
        for (int i = 0; i <= 12; i++) {
            checks.due("8 works", Museums.counting(4, 4, i, 8).works(), i);
        }
        LoggiaPlanner x = Museums.counting(0, 0, 12, 0);
        Checks.thrown(x, y -> y.addWork(5, 5, 50, 5, 5, -1));
        checks.due("8 no thirteenth work", x.works(), 12);
    }
}
