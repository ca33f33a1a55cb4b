import java.util.NoSuchElementException;

/** Promises 22 and 23: trips, found in two ways. */
public final class TripsTest {
    private static final Class<?> INDEX = IndexOutOfBoundsException.class;
    private static final Class<?> MISSING = NoSuchElementException.class;
    private static final Class<?> TOO_DEAR = UnsupportedOperationException.class;

    public static void main(String[] args) {
        Checks checks = new Checks();
        packsWell(checks);
        countsOneLenderAlone(checks);
        answersInAllStates(checks);
        fillsTripsToTheLimit(checks);
        refusesWhatIsDearerThanTheLimit(checks);
        refusesOnlyForItsOwnWorks(checks);
        takesLendersThatAreThere(checks);
        takesExhibitionsThatAreThere(checks);
        checks.end();
    }

    private static void packed(Checks checks, int due, int limit, int... values) {
        LoggiaPlanner x = new LoggiaPlanner();
        x.addLender(limit, 0, 100);
        x.addExhibition(0, 0, 0);
        for (int value : values) {
            x.include(0, x.addWork(1, 0, 100, 100, value, 0));
        }
        checks.due("22 trips", x.trips(0, 0), due);
        checks.due("23 trips", x.tripsByTrying(0, 0), due);
        checks.due("22 trips again", x.trips(0, 0), due);
    }

    private static void packsWell(Checks checks) {
        packed(checks, 0, 100);
        packed(checks, 1, 100, 100);
        packed(checks, 1, 100, 50, 50);
        packed(checks, 2, 100, 50, 51);
        packed(checks, 2, 100, 60, 50, 40, 50);
        packed(checks, 2, 100, 40, 50, 50, 60);
        packed(checks, 2, 100, 30, 30, 40, 50, 50);
        packed(checks, 2, 100, 50, 30, 40, 50, 30);
        packed(checks, 3, 100, 51, 49, 51, 49, 51);
        packed(checks, 3, 100, 40, 40, 40, 40, 40);
        packed(checks, 5, 100, 60, 60, 60, 60, 60);
        packed(checks, 5, 1, 1, 1, 1, 1, 1);
        packed(checks, 1, 9999, 999, 999, 999, 999, 999);
        packed(checks, 1, 5, 1, 1, 1, 1, 1);
        packed(checks, 2, 4, 1, 1, 1, 1, 1);
    }

    /** Museums.small(): lender 0 (limit 150) sends 100, 80 and 60; lender 1 (limit 90) one of 91. */
    private static void countsOneLenderAlone(Checks checks) {
        LoggiaPlanner x = Museums.small();
        checks.due("22 three of four works", x.trips(Museums.PLANNED, 0), 2);
        checks.due("23 three of four works", x.tripsByTrying(Museums.PLANNED, 0), 2);
        checks.due("22 no works of it", x.trips(Museums.PLANNED, 1), 0);
        checks.due("23 no works of it", x.tripsByTrying(Museums.PLANNED, 1), 0);
        checks.due("22 of the other lender only", x.trips(Museums.LENT_TOO_DEAR, 0), 0);
        checks.due("23 of the other lender only", x.tripsByTrying(Museums.LENT_TOO_DEAR, 0), 0);
        x.include(Museums.DRAFT, 4);
        checks.due("22 dear works of others do not count", x.trips(Museums.DRAFT, 0), 1);
        checks.due("23 dear works of others do not count", x.tripsByTrying(Museums.DRAFT, 0), 1);
    }

    private static void answersInAllStates(Checks checks) {
        LoggiaPlanner x = Museums.small();
        checks.due("22 waits", x.trips(Museums.WAITING, 0), 0);
        checks.due("22 draft", x.trips(Museums.DRAFT, 0), 1);
        checks.due("22 cancelled", x.trips(Museums.CANCELLED, 0), 1);
        checks.due("22 no works", x.trips(Museums.EMPTY_DRAFT, 1), 0);
        checks.due("23 waits", x.tripsByTrying(Museums.WAITING, 0), 0);
        checks.due("23 draft", x.tripsByTrying(Museums.DRAFT, 0), 1);
        checks.due("23 cancelled", x.tripsByTrying(Museums.CANCELLED, 0), 1);
        checks.due("23 no works", x.tripsByTrying(Museums.EMPTY_DRAFT, 1), 0);
    }

    /** "Works with a value of at most the insurance limit together" */
    private static void fillsTripsToTheLimit(Checks checks) {
        for (int limit : new int[] {20, 21, 100, 999}) {
            packed(checks, 1, limit, limit);
            packed(checks, 1, limit, limit - 1);
            packed(checks, 1, limit, 1, limit - 1);
            packed(checks, 2, limit, 1, limit);
            packed(checks, 2, limit, 2, limit - 1);
            packed(checks, 1, limit, 1, 1, 1, 1, limit - 4);
            packed(checks, 2, limit, 1, 1, 1, 1, limit - 3);
            packed(checks, 2, limit, 2, 1, limit - 2, limit - 1);
            packed(checks, 3, limit, 2, 2, limit - 1, limit - 1, limit - 5);
        }
        packed(checks, 1, 4995, 999, 999, 999, 999, 999);
        packed(checks, 2, 4994, 999, 999, 999, 999, 999);
        packed(checks, 5, 999, 999, 999, 999, 999, 999);
    }

    /** One exhibition with five works of the value 100, but one of another value, of one lender. */
    private static LoggiaPlanner fiveWorks(int limit, int odd, int value) {
        LoggiaPlanner x = new LoggiaPlanner();
        x.addLender(limit, 0, 100);
        x.addExhibition(0, 0, 0);
        for (int i = 0; i < 5; i++) {
            x.include(0, x.addWork(1, 0, 100, 100, i == odd ? value : 100, 0));
        }
        return x;
    }

    /** "Throws UnsupportedOperationException if a value is greater than the insurance limit" */
    private static void refusesWhatIsDearerThanTheLimit(Checks checks) {
        for (int i = 0; i < 5; i++) {
            int odd = i;
            checks.due("22 just the limit", fiveWorks(100, odd, 100).trips(0, 0), 5);
            checks.due("23 just the limit", fiveWorks(100, odd, 100).tripsByTrying(0, 0), 5);
            checks.refused("22 too dear", TOO_DEAR, () -> fiveWorks(100, odd, 101),
                    x -> x.trips(0, 0));
            checks.refused("23 too dear", TOO_DEAR, () -> fiveWorks(100, odd, 101),
                    x -> x.tripsByTrying(0, 0));
        }
        checks.refused("22 all too dear", TOO_DEAR, () -> fiveWorks(1, 0, 999),
                x -> x.trips(0, 0));
        checks.refused("23 all too dear", TOO_DEAR, () -> fiveWorks(1, 0, 999),
                x -> x.tripsByTrying(0, 0));
        checks.refused("22 a single work", TOO_DEAR, Museums::small,
                x -> x.trips(Museums.LENT_TOO_DEAR, 1));
        checks.refused("23 a single work", TOO_DEAR, Museums::small,
                x -> x.tripsByTrying(Museums.LENT_TOO_DEAR, 1));
    }

    /** "The works of an exhibition that belong to a lender": others may be as dear as they like. */
    private static void refusesOnlyForItsOwnWorks(Checks checks) {
        LoggiaPlanner x = new LoggiaPlanner();
        x.addLender(10, 0, 100);
        x.addLender(999, 0, 100);
        x.addExhibition(0, 0, 0);
        x.include(0, x.addWork(1, 0, 100, 100, 999, -1));
        x.include(0, x.addWork(1, 0, 100, 100, 999, 1));
        checks.due("22 none of its works", x.trips(0, 0), 0);
        checks.due("23 none of its works", x.tripsByTrying(0, 0), 0);
        x.include(0, x.addWork(1, 0, 100, 100, 10, 0));
        x.addWork(1, 0, 100, 100, 11, 0);
        checks.due("22 one that it can bring", x.trips(0, 0), 1);
        checks.due("23 one that it can bring", x.tripsByTrying(0, 0), 1);
        checks.due("22 of the other one", x.trips(0, 1), 1);
        checks.due("23 of the other one", x.tripsByTrying(0, 1), 1);
    }

    /** "Throws IndexOutOfBoundsException if there is no such lender" */
    private static void takesLendersThatAreThere(Checks checks) {
        for (int i = 0; i <= 4; i++) {
            int count = i;
            checks.range("22 lender of " + count, INDEX, () -> Museums.counting(4, count, 12, 8), 0,
                    count - 1, (x, n) -> x.trips(7, n));
            checks.range("23 lender of " + count, INDEX, () -> Museums.counting(4, count, 12, 8), 0,
                    count - 1, (x, n) -> x.tripsByTrying(7, n));
        }
        checks.range("22 lender", INDEX, Museums::small, 0, 1, (x, n) -> x.trips(0, n));
        checks.range("23 lender", INDEX, Museums::small, 0, 1, (x, n) -> x.tripsByTrying(0, n));
    }

    /** "Throws NoSuchElementException if there is no such exhibition" */
    private static void takesExhibitionsThatAreThere(Checks checks) {
        checks.range("22 exhibition", MISSING, Museums::small, 0, 5, (x, n) -> x.trips(n, 0));
        checks.range("23 exhibition", MISSING, Museums::small, 0, 5,
                (x, n) -> x.tripsByTrying(n, 0));
    }
}
