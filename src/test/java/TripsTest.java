import java.util.NoSuchElementException;

/** Promises 22 and 23: trips, found in two ways. */
public final class TripsTest {
    private static final Class<?> INDEX = IndexOutOfBoundsException.class;
    private static final Class<?> MISSING = NoSuchElementException.class;
    private static final Class<?> TOO_DEAR = UnsupportedOperationException.class;

    public static void main(String[] args) {
        Checks checks = new Checks();
        packsWell(checks);
        countsOneLenderAlone(checks);
        answersInAllStates(checks);
        refuses(checks);
        checks.end();
    }

    private static void packed(Checks checks, int due, int limit, int... values) {
        LoggiaPlanner x = new LoggiaPlanner();
        x.addLender(limit, 0, 100);
        x.addExhibition(0, 0, 0);
        for (int value : values) {
            x.include(0, x.addWork(1, 0, 100, 100, value, 0));
        }
        checks.due("22 trips", x.trips(0, 0), due);
        checks.due("23 trips", x.tripsByTrying(0, 0), due);
        checks.due("22 trips again", x.trips(0, 0), due);
    }

    private static void packsWell(Checks checks) {
        packed(checks, 0, 100);
        packed(checks, 1, 100, 100);
        packed(checks, 1, 100, 50, 50);
        packed(checks, 2, 100, 50, 51);
        packed(checks, 2, 100, 60, 50, 40, 50);
        packed(checks, 2, 100, 40, 50, 50, 60);
        packed(checks, 2, 100, 30, 30, 40, 50, 50);
        packed(checks, 2, 100, 50, 30, 40, 50, 30);
        packed(checks, 3, 100, 51, 49, 51, 49, 51);
        packed(checks, 3, 100, 40, 40, 40, 40, 40);
        packed(checks, 5, 100, 60, 60, 60, 60, 60);
        packed(checks, 5, 1, 1, 1, 1, 1, 1);
        packed(checks, 1, 9999, 999, 999, 999, 999, 999);
        packed(checks, 1, 5, 1, 1, 1, 1, 1);
        packed(checks, 2, 4, 1, 1, 1, 1, 1);
    }

    /** Museums.small(): lender 0 (limit 150) sends 100, 80 and 60; lender 1 (limit 90) one of 91. */
    private static void countsOneLenderAlone(Checks checks) {
        LoggiaPlanner x = Museums.small();
        checks.due("22 three of four works", x.trips(Museums.PLANNED, 0), 2);
        checks.due("23 three of four works", x.tripsByTrying(Museums.PLANNED, 0), 2);
        checks.due("22 no works of it", x.trips(Museums.PLANNED, 1), 0);
        checks.due("23 no works of it", x.tripsByTrying(Museums.PLANNED, 1), 0);
        checks.due("22 of the other lender only", x.trips(Museums.LENT_TOO_DEAR, 0), 0);
        checks.due("23 of the other lender only", x.tripsByTrying(Museums.LENT_TOO_DEAR, 0), 0);
        x.include(Museums.DRAFT, 4);
        checks.due("22 dear works of others do not count", x.trips(Museums.DRAFT, 0), 1);
        checks.due("23 dear works of others do not count", x.tripsByTrying(Museums.DRAFT, 0), 1);
    }

    private static void answersInAllStates(Checks checks) {
        LoggiaPlanner x = Museums.small();
        checks.due("22 waits", x.trips(Museums.WAITING, 0), 0);
        checks.due("22 draft", x.trips(Museums.DRAFT, 0), 1);
        checks.due("22 cancelled", x.trips(Museums.CANCELLED, 0), 1);
        checks.due("22 no works", x.trips(Museums.EMPTY_DRAFT, 1), 0);
        checks.due("23 waits", x.tripsByTrying(Museums.WAITING, 0), 0);
        checks.due("23 draft", x.tripsByTrying(Museums.DRAFT, 0), 1);
        checks.due("23 cancelled", x.tripsByTrying(Museums.CANCELLED, 0), 1);
        checks.due("23 no works", x.tripsByTrying(Museums.EMPTY_DRAFT, 1), 0);
    }

    private static void refuses(Checks checks) {
        checks.refused("22 missing", MISSING, Museums::small, y -> y.trips(6, 9));
        checks.refused("22 missing", MISSING, Museums::small, y -> y.trips(-1, 0));
        checks.refused("22 no lender", INDEX, Museums::small, y -> y.trips(0, 2));
        checks.refused("22 no lender", INDEX, Museums::small, y -> y.trips(0, -1));
        checks.refused("22 too dear", TOO_DEAR, Museums::small,
                y -> y.trips(Museums.LENT_TOO_DEAR, 1));
        checks.refused("23 missing", MISSING, Museums::small, y -> y.tripsByTrying(6, 9));
        checks.refused("23 missing", MISSING, Museums::small, y -> y.tripsByTrying(-1, 0));
        checks.refused("23 no lender", INDEX, Museums::small, y -> y.tripsByTrying(0, 2));
        checks.refused("23 no lender", INDEX, Museums::small, y -> y.tripsByTrying(0, -1));
        checks.refused("23 too dear", TOO_DEAR, Museums::small,
                y -> y.tripsByTrying(Museums.LENT_TOO_DEAR, 1));
    }
}
