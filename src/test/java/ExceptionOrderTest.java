import java.util.NoSuchElementException;
import java.util.function.Consumer;
import java.util.function.Supplier;

/**
 * "If several exceptions apply, the one that is documented first is thrown." Each two exceptions of a call
 * that can apply at once; two that cannot are named where they are left out.
 */
public final class ExceptionOrderTest {
    private static final Class<?> INDEX = IndexOutOfBoundsException.class;
    private static final Class<?> MISSING = NoSuchElementException.class;
    private static final Class<?> RANGE = IllegalArgumentException.class;
    private static final Class<?> STATE = IllegalStateException.class;
    /** Out of the range of every number that a call takes. */
    private static final int[] OUT = {-1, 10000, Integer.MIN_VALUE, Integer.MAX_VALUE};

    private final Checks checks;

    private ExceptionOrderTest(Checks checks) {
        this.checks = checks;
    }

    public static void main(String[] args) {
        Checks checks = new Checks();
        ExceptionOrderTest test = new ExceptionOrderTest(checks);
        test.rangeBeforeFourRooms();
        test.roomBeforeRange();
        test.rangeBeforeFourLenders();
        test.rangeBeforeTwelveWorks();
        test.worksBeforeSameAndKind();
        test.sameAndKindBeforeWhatHangs();
        test.rangeBeforeEightExhibitions();
        test.exhibitionBeforeWork();
        test.workBeforeDraft();
        test.draftBeforeWorks();
        test.exhibitionBeforeIndex();
        test.indexBeforeState();
        test.indexBeforePlan();
        test.stateBeforePlan();
        test.exhibitionBeforeLender();
        test.wallBeforeDay();
        test.workBeforeDay();
        test.dayBeforeAway();
        checks.end();
    }

    private void first(String what, Class<?> due, Supplier<LoggiaPlanner> start,
            Consumer<LoggiaPlanner> call) {
        checks.refused(what, due, start, call);
    }

    private void rangeBeforeFourRooms() {
        for (int out : OUT) {
            first("2 humidity", RANGE, Museums::full, x -> x.addRoom(out, 5, 5, 5));
            first("2 light", RANGE, Museums::full, x -> x.addRoom(5, out, 5, 5));
            first("2 first wall", RANGE, Museums::full, x -> x.addRoom(5, 5, out, 5));
            first("2 second wall", RANGE, Museums::full, x -> x.addRoom(5, 5, 5, out));
            first("2 all four", RANGE, Museums::full, x -> x.addRoom(out, out, out, out));
        }
        first("2 humidity 101", RANGE, Museums::full, x -> x.addRoom(101, 5, 5, 5));
        first("2 light 101", RANGE, Museums::full, x -> x.addRoom(5, 101, 5, 5));
        first("2 first wall 0", RANGE, Museums::full, x -> x.addRoom(5, 5, 0, 5));
        first("2 second wall 401", RANGE, Museums::full, x -> x.addRoom(5, 5, 5, 401));
    }

    private void roomBeforeRange() {
        for (int out : OUT) {
            first("3 no room yet", INDEX, Museums::empty, x -> x.setClimate(0, out, 5));
            first("3 humidity", INDEX, Museums::small, x -> x.setClimate(2, out, 5));
            first("3 light", INDEX, Museums::small, x -> x.setClimate(-1, 5, out));
            first("3 both", INDEX, Museums::full, x -> x.setClimate(4, out, out));
        }
    }

    private void rangeBeforeFourLenders() {
        for (int out : OUT) {
            first("4 limit", RANGE, Museums::full, x -> x.addLender(out, 5, 5));
            first("4 days", RANGE, Museums::full, x -> x.addLender(5, out, 5));
            first("4 longest", RANGE, Museums::full, x -> x.addLender(5, 5, out));
        }
        first("4 limit 0", RANGE, Museums::full, x -> x.addLender(0, 5, 5));
        first("4 days 10", RANGE, Museums::full, x -> x.addLender(5, 10, 5));
        first("4 longest 101", RANGE, Museums::full, x -> x.addLender(5, 5, 101));
    }

    private void rangeBeforeTwelveWorks() {
        for (int out : OUT) {
            first("5 width", RANGE, Museums::full, x -> x.addWork(out, 5, 50, 5, 5, -1));
            first("5 low", RANGE, Museums::full, x -> x.addWork(5, out, 50, 5, 5, -1));
            first("5 high", RANGE, Museums::full, x -> x.addWork(5, 5, out, 5, 5, -1));
            first("5 light", RANGE, Museums::full, x -> x.addWork(5, 5, 50, out, 5, -1));
            first("5 value", RANGE, Museums::full, x -> x.addWork(5, 5, 50, 5, out, -1));
        }
        first("5 lender -2", RANGE, Museums::full, x -> x.addWork(5, 5, 50, 5, 5, -2));
        first("5 lender 4", RANGE, Museums::full, x -> x.addWork(5, 5, 50, 5, 5, 4));
        first("5 high below low", RANGE, Museums::full, x -> x.addWork(5, 51, 50, 5, 5, -1));
        first("5 lender 0", RANGE, () -> Museums.counting(0, 0, 12, 0),
                x -> x.addWork(5, 5, 50, 5, 5, 0));
    }

    /** A work that is not there does not hang, so that the first and the third do not meet. */
    private void worksBeforeSameAndKind() {
        first("6 no work, and the same", INDEX, Museums::empty, x -> x.separate(0, 0, 'r'));
        first("6 no work, and the same", INDEX, Museums::small, x -> x.separate(5, 5, 'r'));
        first("6 no work, and the same", INDEX, Museums::small, x -> x.separate(-1, -1, 'w'));
        first("6 no work, and no kind", INDEX, Museums::small, x -> x.separate(5, 0, 'n'));
        first("6 no other, and no kind", INDEX, Museums::small, x -> x.separate(0, 5, 'n'));
        first("6 no other, and no kind", INDEX, Museums::full, x -> x.separate(0, 12, 'x'));
        first("6 all three", INDEX, Museums::full, x -> x.separate(12, 12, 'x'));
    }

    private void sameAndKindBeforeWhatHangs() {
        first("6 one room, and no kind", RANGE, Museums::small, x -> x.separate(0, 1, 'x'));
        first("6 one room, and no kind", RANGE, Museums::small, x -> x.separate(3, 2, 'n'));
        first("6 the same on its wall", RANGE, Museums::small, x -> x.separate(2, 2, 'r'));
        first("6 the same on its wall, no kind", RANGE, Museums::small, x -> x.separate(2, 2, 'x'));
    }

    private void rangeBeforeEightExhibitions() {
        for (int out : OUT) {
            first("11 first", RANGE, Museums::full, x -> x.addExhibition(out, 50, 5));
            first("11 last", RANGE, Museums::full, x -> x.addExhibition(5, out, 5));
            first("11 gap", RANGE, Museums::full, x -> x.addExhibition(5, 50, out));
        }
        first("11 first 100", RANGE, Museums::full, x -> x.addExhibition(100, 100, 5));
        first("11 last before first", RANGE, Museums::full, x -> x.addExhibition(5, 4, 5));
        first("11 gap 51", RANGE, Museums::full, x -> x.addExhibition(5, 50, 51));
    }

    private void exhibitionBeforeWork() {
        first("12 neither", MISSING, Museums::empty, x -> x.include(0, 0));
        for (int out : OUT) {
            first("12 neither", MISSING, Museums::small, x -> x.include(6, out));
            first("12 neither", MISSING, Museums::full, x -> x.include(8, out));
            first("12 neither", MISSING, Museums::full, x -> x.include(-1, out));
        }
    }

    private void workBeforeDraft() {
        for (int out : OUT) {
            first("12 planned", INDEX, Museums::small, x -> x.include(Museums.PLANNED, out));
            first("12 waits", INDEX, Museums::small, x -> x.include(Museums.WAITING, out));
            first("12 cancelled", INDEX, Museums::small, x -> x.include(Museums.CANCELLED, out));
            first("12 has 5 works", INDEX, Museums::full, x -> x.include(0, out));
        }
    }

    /** Only what was cancelled as a draft is no draft and has no works. */
    private void draftBeforeWorks() {
        first("13 cancelled without works", STATE, () -> {
            LoggiaPlanner x = Museums.small();
            x.cancel(Museums.EMPTY_DRAFT);
            return x;
        }, x -> x.request(Museums.EMPTY_DRAFT));
    }

    private void exhibitionBeforeIndex() {
        for (Supplier<LoggiaPlanner> start : Museums.emptyAndSmall()) {
            for (int out : OUT) {
                first("17", MISSING, start, x -> x.workOf(6, out));
                first("18", MISSING, start, x -> x.wallOf(6, out));
                first("19", MISSING, start, x -> x.canTake(6, out));
                first("20", MISSING, start, x -> x.wallFor(6, out));
                first("21", MISSING, start, x -> x.wallForBySearch(6, out));
                first("17", MISSING, start, x -> x.workOf(-1, out));
                first("18", MISSING, start, x -> x.wallOf(-1, out));
                first("19", MISSING, start, x -> x.canTake(-1, out));
                first("20", MISSING, start, x -> x.wallFor(-1, out));
                first("21", MISSING, start, x -> x.wallForBySearch(-1, out));
            }
        }
    }

    private void indexBeforeState() {
        int[][] shows = {{Museums.PLANNED, 4}, {Museums.WAITING, 1}, {Museums.DRAFT, 2},
            {Museums.CANCELLED, 1}, {Museums.EMPTY_DRAFT, 0}};
        for (int[] show : shows) {
            for (int out : new int[] {show[1], -1, Integer.MIN_VALUE, Integer.MAX_VALUE}) {
                first("18", INDEX, Museums::small, x -> x.wallOf(show[0], out));
                first("19", INDEX, Museums::small, x -> x.canTake(show[0], out));
                first("20", INDEX, Museums::small, x -> x.wallFor(show[0], out));
                first("21", INDEX, Museums::small, x -> x.wallForBySearch(show[0], out));
            }
        }
    }

    private void indexBeforePlan() {
        for (int out : new int[] {1, -1, Integer.MIN_VALUE, Integer.MAX_VALUE}) {
            for (int show : new int[] {Museums.WAITING, Museums.LENT_TOO_DEAR}) {
                first("20 no plan", INDEX, Museums::small, x -> x.wallFor(show, out));
                first("21 no plan", INDEX, Museums::small, x -> x.wallForBySearch(show, out));
            }
            first("20 no walls", INDEX, () -> Museums.counting(0, 0, 1, 1), x -> x.wallFor(0, out));
            first("21 no walls", INDEX, () -> Museums.counting(0, 0, 1, 1),
                    x -> x.wallForBySearch(0, out));
        }
    }

    /** Cancelled, and besides too dear for its lender. For one that is planned a plan is possible. */
    private void stateBeforePlan() {
        Supplier<LoggiaPlanner> start = () -> {
            LoggiaPlanner x = Museums.small();
            x.cancel(Museums.LENT_TOO_DEAR);
            return x;
        };
        first("20 cancelled", STATE, start, x -> x.wallFor(Museums.LENT_TOO_DEAR, 0));
        first("21 cancelled", STATE, start, x -> x.wallForBySearch(Museums.LENT_TOO_DEAR, 0));
    }

    /** A lender that is not there has no limit, so that the second and the third do not meet. */
    private void exhibitionBeforeLender() {
        for (Supplier<LoggiaPlanner> start : Museums.emptyAndSmall()) {
            for (int out : OUT) {
                first("22", MISSING, start, x -> x.trips(6, out));
                first("23", MISSING, start, x -> x.tripsByTrying(6, out));
                first("22", MISSING, start, x -> x.trips(-1, out));
                first("23", MISSING, start, x -> x.tripsByTrying(-1, out));
            }
        }
        first("22 no lender, though dear works", INDEX, Museums::small,
                x -> x.trips(Museums.LENT_TOO_DEAR, 2));
        first("23 no lender, though dear works", INDEX, Museums::small,
                x -> x.tripsByTrying(Museums.LENT_TOO_DEAR, 2));
    }

    private void wallBeforeDay() {
        for (int out : new int[] {-1, 100, Integer.MIN_VALUE, Integer.MAX_VALUE}) {
            for (int wall : new int[] {-1, 4, 8}) {
                first("24", INDEX, Museums::small, x -> x.taken(wall, out));
                first("25", INDEX, Museums::small, x -> x.hanging(wall, out));
                first("30", INDEX, Museums::small, x -> x.share(wall, out));
            }
            first("24", INDEX, Museums::empty, x -> x.taken(0, out));
            first("25", INDEX, Museums::empty, x -> x.hanging(0, out));
            first("30", INDEX, Museums::empty, x -> x.share(0, out));
        }
    }

    private void workBeforeDay() {
        for (int out : new int[] {-10, 109, Integer.MIN_VALUE, Integer.MAX_VALUE}) {
            first("26", INDEX, Museums::empty, x -> x.awayFor(0, out));
            first("26", INDEX, Museums::small, x -> x.awayFor(5, out));
            first("26", INDEX, Museums::full, x -> x.awayFor(12, out));
            first("26", INDEX, Museums::small, x -> x.awayFor(-1, out));
        }
        first("26 not away, too", INDEX, Museums::small, x -> x.awayFor(5, 50));
    }

    private void dayBeforeAway() {
        for (int out : new int[] {-10, 109, Integer.MIN_VALUE, Integer.MAX_VALUE}) {
            first("26 in a plan", RANGE, Museums::small, x -> x.awayFor(0, out));
            first("26 in no plan", RANGE, Museums::small, x -> x.awayFor(4, out));
        }
    }
}
