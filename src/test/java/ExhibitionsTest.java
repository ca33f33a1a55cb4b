import java.util.Arrays;
import java.util.NoSuchElementException;
import java.util.function.ObjIntConsumer;
import java.util.function.Supplier;

/** Promises 11 to 18: exhibitions, from the draft to the cancelling. */
public final class ExhibitionsTest {
    private static final Class<?> INDEX = IndexOutOfBoundsException.class;
    private static final Class<?> MISSING = NoSuchElementException.class;
    private static final Class<?> NO_WORKS = UnsupportedOperationException.class;
    private static final Class<?> RANGE = IllegalArgumentException.class;
    private static final Class<?> STATE = IllegalStateException.class;

    public static void main(String[] args) {
        Checks checks = new Checks();
        addExhibition(checks);
        addExhibitionTakesDaysInOrder(checks);
        addExhibitionTakesGapsInRange(checks);
        addExhibitionTakesEight(checks);
        addExhibitionUsesTheExtremes(checks);
        include(checks);
        includeTakesFiveWorks(checks);
        includeTakesAWorkOnce(checks);
        includeTakesDraftsOnly(checks);
        includeTakesWorksThatAreThere(checks);
        request(checks);
        requestTakesOneToFiveWorks(checks);
        requestTakesDraftsOnly(checks);
        requestLeavesOthersAlone(checks);
        cancel(checks);
        cancelPlansNoneToSeven(checks);
        cancelPlansInOrder(checks);
        cancelLooksOnceAtEach(checks);
        cancelTakesAllButCancelled(checks);
        states(checks);
        worksInOrder(checks);
        wallsOfPlannedOnesOnly(checks);
        allTakeExhibitionsThatAreThere(checks);
        checks.end();
    }

    private static void addExhibition(Checks checks) {
        LoggiaPlanner x = Museums.empty();
        checks.due("11 first", x.addExhibition(3, 7, 2), 0);
        checks.due("11 second, like the first", x.addExhibition(3, 7, 2), 1);
        checks.due("11 draft", x.stateOf(1), 'd');
        checks.due("11 without works", x.worksOf(1), 0);
    }

    /** "A first and a last day, from 0 to 99", "its last day, not less than the first one" */
    private static void addExhibitionTakesDaysInOrder(Checks checks) {
        for (Supplier<LoggiaPlanner> start : Museums.emptyAndSmall()) {
            for (int i : new int[] {0, 1, 50, 98, 99}) {
                int edge = i;
                checks.range("11 first, to " + edge, RANGE, start, 0, edge,
                        (x, n) -> x.addExhibition(n, edge, 5));
                checks.range("11 last, from " + edge, RANGE, start, edge, 99,
                        (x, n) -> x.addExhibition(edge, n, 5));
            }
            checks.refused("11 both too small", RANGE, start, x -> x.addExhibition(-1, -1, 5));
            checks.refused("11 both too large", RANGE, start, x -> x.addExhibition(100, 100, 5));
        }
    }

    /** "A gap from 0 to 50" */
    private static void addExhibitionTakesGapsInRange(Checks checks) {
        for (Supplier<LoggiaPlanner> start : Museums.emptyAndSmall()) {
            checks.range("11 gap", RANGE, start, 0, 50, (x, n) -> x.addExhibition(10, 20, n));
        }
    }

    /** "At most 8 exhibitions exist, numbered from 0." Those that are cancelled exist, too. */
    private static void addExhibitionTakesEight(Checks checks) {
        for (int i = 0; i < 8; i++) {
            checks.due("11 exhibition " + i,
                    Museums.counting(0, 0, 0, i).addExhibition(5, 5, 5), i);
            checks.due("11 exhibition " + i + " beside all others",
                    Museums.counting(4, 4, 12, i).addExhibition(5, 5, 5), i);
        }
        checks.refused("11 ninth", STATE, () -> Museums.counting(0, 0, 0, 8),
                x -> x.addExhibition(5, 5, 5));
        checks.refused("11 ninth", STATE, Museums::full, x -> x.addExhibition(0, 0, 0));
        checks.refused("11 ninth, all cancelled", STATE, ExhibitionsTest::allCancelled,
                x -> x.addExhibition(0, 0, 0));
    }

    private static LoggiaPlanner allCancelled() {
        LoggiaPlanner x = Museums.counting(1, 1, 8, 8);
        for (int i = 0; i < 8; i++) {
            x.cancel(i);
        }
        return x;
    }

    private static void addExhibitionUsesTheExtremes(Checks checks) {
        LoggiaPlanner x = Museums.withWidths(61, 60, 10, 10);
        Museums.addShow(x, 0, 0, 50, 0);
        Museums.addShow(x, 99, 99, 0, 0);
        Museums.addShow(x, 0, 99, 0, 1);
        for (int i = 0; i < 3; i++) {
            checks.due("11 planned", x.request(i), 'p');
        }
        checks.due("11 gap 50 on day 0", x.taken(0, 0), 60);
        checks.due("11 gap 0 on day 99", x.taken(0, 99), 10);
        checks.due("11 hangs on day 0", x.awayFor(1, 0), 2);
        checks.due("11 hangs on day 99", x.awayFor(1, 99), 2);
    }

    /** "Returns the number of works", which are "in the order in which they were included". */
    private static void include(Checks checks) {
        LoggiaPlanner x = Museums.withWidths(400, 400, 1, 2, 3, 4, 5, 6);
        x.addExhibition(0, 0, 0);
        x.addExhibition(0, 0, 0);
        int[] order = {5, 0, 3, 1, 4};
        for (int i = 0; i < order.length; i++) {
            checks.due("12 number of works", x.include(0, order[i]), i + 1);
        }
        for (int i = 0; i < order.length; i++) {
            checks.due("12 in the order of including", x.workOf(0, i), order[i]);
        }
        checks.due("12 a work in two drafts", x.include(1, 5), 1);
    }

    /** "Throws IllegalStateException if it ... has 5 works" */
    private static void includeTakesFiveWorks(Checks checks) {
        for (int i = 0; i < 5; i++) {
            checks.due("12 one more", Museums.withFirstWorks(i).include(0, 11), i + 1);
        }
        Supplier<LoggiaPlanner> five = () -> Museums.withFirstWorks(5);
        checks.refused("12 sixth work", STATE, five, x -> x.include(0, 11));
        checks.refused("12 sixth work", STATE, Museums::full, x -> x.include(7, 0));
        LoggiaPlanner x = five.get();
        x.addExhibition(0, 0, 0);
        checks.due("12 another exhibition", x.include(1, 0), 1);
    }

    /** "Throws IllegalStateException if it ... has this one" */
    private static void includeTakesAWorkOnce(Checks checks) {
        for (int i = 1; i <= 5; i++) {
            int count = i;
            for (int k = 0; k < count; k++) {
                int work = k;
                checks.refused("12 has it", STATE, () -> Museums.withFirstWorks(count),
                        x -> x.include(0, work));
            }
        }
    }

    /** "Throws IllegalStateException if it is not a draft" */
    private static void includeTakesDraftsOnly(Checks checks) {
        checks.refused("12 planned", STATE, Museums::small, x -> x.include(Museums.PLANNED, 4));
        checks.refused("12 waits", STATE, Museums::small, x -> x.include(Museums.WAITING, 4));
        checks.refused("12 cancelled", STATE, Museums::small, x -> x.include(Museums.CANCELLED, 4));
        checks.refused("12 cancelled without works", STATE, ExhibitionsTest::cancelledEmpty,
                x -> x.include(0, 0));
        checks.due("12 a draft", Museums.small().include(Museums.DRAFT, 4), 3);
        checks.due("12 a draft without works", Museums.small().include(Museums.EMPTY_DRAFT, 0), 1);
    }

    private static LoggiaPlanner cancelledEmpty() {
        LoggiaPlanner x = Museums.counting(1, 0, 1, 0);
        x.addExhibition(0, 0, 0);
        x.cancel(0);
        return x;
    }

    /** "Throws IndexOutOfBoundsException if there is no such work" */
    private static void includeTakesWorksThatAreThere(Checks checks) {
        for (int i : new int[] {0, 1, 11, 12}) {
            int count = i;
            Supplier<LoggiaPlanner> start = () -> {
                LoggiaPlanner x = Museums.counting(4, 4, count, 0);
                x.addExhibition(5, 5, 5);
                return x;
            };
            checks.range("12 work of " + count, INDEX, start, 0, count - 1,
                    (x, n) -> x.include(0, n));
        }
    }

    /** "Returns 'p' if it is planned, or 'w' if it waits." */
    private static void request(Checks checks) {
        LoggiaPlanner x = Museums.withWidths(30, 20, 20, 20);
        Museums.addShow(x, 5, 9, 0, 0);
        Museums.addShow(x, 9, 9, 10, 1);
        Museums.addShow(x, 5, 5, 10, 1);
        Museums.addShow(x, 0, 4, 11, 0);
        Museums.addShow(x, 10, 10, 1, 1, 0);
        checks.due("13 planned", x.request(0), 'p');
        checks.due("13 no room on the last day", x.request(1), 'w');
        checks.due("13 no room on the first day", x.request(2), 'w');
        checks.due("13 too wide with the gap", x.request(3), 'w');
        checks.due("13 the second does not fit", x.request(4), 'w');
        checks.due("13 state", x.stateOf(0), 'p');
        checks.due("13 state", x.stateOf(4), 'w');
        checks.due("13 times", x.planned(), 1);
    }

    /** "Throws UnsupportedOperationException if it has no works" */
    private static void requestTakesOneToFiveWorks(Checks checks) {
        checks.refused("13 no works", NO_WORKS, () -> Museums.withFirstWorks(0), x -> x.request(0));
        checks.refused("13 no works", NO_WORKS, Museums::small, x -> x.request(Museums.EMPTY_DRAFT));
        for (int i = 1; i <= 5; i++) {
            LoggiaPlanner x = Museums.withFirstWorks(i);
            checks.due("13 with works", x.request(0), 'p');
            checks.due("13 all hang", x.hanging(0, 10) + x.hanging(1, 10), i);
        }
    }

    /** "Throws IllegalStateException if it is not a draft" */
    private static void requestTakesDraftsOnly(Checks checks) {
        checks.refused("13 planned", STATE, Museums::small, y -> y.request(Museums.PLANNED));
        checks.refused("13 waits", STATE, Museums::small, y -> y.request(Museums.WAITING));
        checks.refused("13 cancelled", STATE, Museums::small, y -> y.request(Museums.CANCELLED));
        checks.refused("13 taken down", STATE, Museums::smallTakenDown,
                y -> y.request(Museums.PLANNED));
    }

    private static void requestLeavesOthersAlone(Checks checks) {
        LoggiaPlanner x = Museums.withWidths(30, 20, 20, 20);
        Museums.addShow(x, 5, 9, 11, 0);
        Museums.addShow(x, 5, 9, 0, 1);
        Museums.addShow(x, 5, 9, 0, 0);
        checks.due("13 waits", x.request(0), 'w');
        checks.due("13 one that waits does not hang", x.request(1), 'p');
        checks.due("13 waits still", x.stateOf(0), 'w');
        checks.due("13 a draft still", x.stateOf(2), 'd');
        checks.due("13 its wall", x.wallOf(1, 0), 0);
        checks.due("13 of one that waits nothing is away", x.awayFor(1, 9), 1);
        checks.refused("13 nothing is away for a draft", MISSING, () -> {
            LoggiaPlanner y = Museums.withWidths(30, 20, 20);
            Museums.addShow(y, 5, 9, 0, 0);
            return y;
        }, y -> y.awayFor(0, 5));
    }

    /** "Cancels an exhibition; if it was planned, its works do not hang any more." */
    private static void cancel(Checks checks) {
        LoggiaPlanner x = Museums.small();
        checks.due("14 one that waits", x.cancel(Museums.WAITING), 0);
        checks.due("14 a draft", x.cancel(Museums.DRAFT), 0);
        checks.due("14 a draft without works", x.cancel(Museums.EMPTY_DRAFT), 0);
        checks.due("14 state", x.stateOf(Museums.DRAFT), 'c');
        checks.due("14 state", x.stateOf(Museums.WAITING), 'c');
        checks.due("14 state", x.stateOf(Museums.EMPTY_DRAFT), 'c');
        x = Museums.small();
        checks.due("14 a planned one", x.cancel(Museums.PLANNED), 1);
        checks.due("14 state", x.stateOf(Museums.PLANNED), 'c');
        checks.due("14 the one that waited", x.stateOf(Museums.WAITING), 'p');
        checks.due("14 works do not hang", x.hanging(1, 10), 0);
        checks.due("14 works stay in it", x.worksOf(Museums.PLANNED), 4);
        checks.due("14 a draft stays", x.stateOf(Museums.DRAFT), 'd');
    }

    /** "Returns the number of exhibitions that are planned by this." From 0 to 7 others. */
    private static void cancelPlansNoneToSeven(Checks checks) {
        for (int count = 0; count <= 7; count++) {
            LoggiaPlanner x = Museums.withWidths(20, 10, 20, 20);
            Museums.addShow(x, 0, 99, 0, 0);
            x.request(0);
            for (int i = 0; i < count; i++) {
                Museums.addShow(x, 14 * i, 14 * i + 13, 0, 1);
                checks.due("14 waits", x.request(i + 1), 'w');
            }
            checks.due("14 planned by this", x.cancel(0), count);
            checks.due("14 times", x.planned(), 1 + count);
            checks.due("14 the cancelled one is not planned", x.stateOf(0), 'c');
        }
    }

    /** Of two that need the same room, the lower number gets it, though it was requested later. */
    private static void cancelPlansInOrder(Checks checks) {
        LoggiaPlanner x = Museums.withWidths(30, 10, 30, 20, 20, 10);
        Museums.addShow(x, 5, 9, 0, 0);
        Museums.addShow(x, 5, 9, 0, 1);
        Museums.addShow(x, 5, 9, 0, 2);
        Museums.addShow(x, 6, 6, 0, 3);
        Museums.addShow(x, 6, 6, 0, 3);
        x.request(0);
        x.request(2);
        x.request(1);
        checks.due("14 fits beside", x.request(3), 'p');
        checks.due("14 its wall", x.wallOf(3, 0), 1);
        checks.due("14 away for another", x.request(4), 'w');
        checks.due("14 one of two", x.cancel(0), 1);
        checks.due("14 lower number", x.stateOf(1), 'p');
        checks.due("14 higher number", x.stateOf(2), 'w');
        checks.due("14 plans of others stay", x.wallOf(3, 0), 1);
        checks.due("14 a plan of its own", x.cancel(3), 1);
        checks.due("14 lower wall", Arrays.toString(Museums.wallsOf(x, 4)), "[0]");
        checks.due("14 times", x.planned(), 4);
    }

    /** Those before and behind the cancelled one are looked at, the first and the last one, too. */
    private static void cancelLooksOnceAtEach(Checks checks) {
        for (int middle = 0; middle < 8; middle++) {
            LoggiaPlanner x = Museums.withWidths(20, 10, 20, 11);
            for (int i = 0; i < 8; i++) {
                Museums.addShow(x, 0, 99, 0, i == middle ? 0 : 1);
            }
            x.request(middle);
            for (int i = 7; i >= 0; i--) {
                if (i != middle) {
                    checks.due("14 waits", x.request(i), 'w');
                }
            }
            int lowest = middle == 0 ? 1 : 0;
            checks.due("14 one of seven", x.cancel(middle), 1);
            checks.due("14 the lowest number", x.stateOf(lowest), 'p');
            checks.due("14 the next one", x.cancel(lowest), 1);
            checks.due("14 times", x.planned(), 3);
        }
    }

    /** "Throws IllegalStateException if it was cancelled before" */
    private static void cancelTakesAllButCancelled(Checks checks) {
        for (int i = 0; i < 6; i++) {
            int show = i;
            Supplier<LoggiaPlanner> twice = () -> {
                LoggiaPlanner x = Museums.small();
                if (show != Museums.CANCELLED) {
                    x.cancel(show);
                }
                return x;
            };
            checks.refused("14 twice", STATE, twice, x -> x.cancel(show));
        }
    }

    /** "Returns 'd', 'p', 'w' or 'c'." "Returns the number of works." */
    private static void states(Checks checks) {
        LoggiaPlanner x = Museums.small();
        StringBuilder states = new StringBuilder();
        StringBuilder sizes = new StringBuilder();
        for (int i = 0; i < 6; i++) {
            states.append(x.stateOf(i));
            sizes.append(x.worksOf(i));
        }
        checks.due("15 states", states.toString(), "pwdcdd");
        checks.due("16 works", sizes.toString(), "412101");
        for (int i = 0; i <= 5; i++) {
            checks.due("16 works", Museums.withFirstWorks(i).worksOf(0), i);
        }
    }

    /** "The index of the work, from 0", "if the exhibition has no such work" */
    private static void worksInOrder(Checks checks) {
        for (int i = 0; i <= 5; i++) {
            int count = i;
            checks.range("17 index of " + count, INDEX, () -> Museums.withFirstWorks(count), 0, count - 1,
                    (x, n) -> x.workOf(0, n));
        }
        LoggiaPlanner x = Museums.small();
        checks.due("17 first of a draft", x.workOf(Museums.DRAFT, 0), 1);
        checks.due("17 second of a draft", x.workOf(Museums.DRAFT, 1), 0);
        checks.due("17 last of a planned one", x.workOf(Museums.PLANNED, 3), 3);
        checks.due("17 of one that waits", x.workOf(Museums.WAITING, 0), 0);
        checks.due("17 of a cancelled one", x.workOf(Museums.CANCELLED, 0), 2);
        checks.refused("17 no works", INDEX, Museums::small, y -> y.workOf(Museums.EMPTY_DRAFT, 0));
    }

    private static void wallsOfPlannedOnesOnly(Checks checks) {
        checks.due("18 walls", Arrays.toString(Museums.wallsOf(Museums.small(), Museums.PLANNED)),
                "[0, 1, 2, 3]");
        for (int i = 1; i <= 5; i++) {
            int count = i;
            Supplier<LoggiaPlanner> start = () -> {
                LoggiaPlanner x = Museums.withFirstWorks(count);
                x.request(0);
                return x;
            };
            checks.range("18 index of " + count, INDEX, start, 0, count - 1,
                    (x, n) -> x.wallOf(0, n));
        }
        checks.refused("18 draft", STATE, Museums::small, y -> y.wallOf(Museums.DRAFT, 0));
        checks.refused("18 waits", STATE, Museums::small, y -> y.wallOf(Museums.WAITING, 0));
        checks.refused("18 cancelled", STATE, Museums::small, y -> y.wallOf(Museums.CANCELLED, 0));
        checks.refused("18 cancelled after it was planned", STATE, Museums::smallCancelled,
                y -> y.wallOf(Museums.PLANNED, 3));
        checks.refused("18 taken down", STATE, Museums::smallTakenDown,
                y -> y.wallOf(Museums.PLANNED, 0));
    }

    /** "Throws NoSuchElementException if there is no such exhibition", in each call that takes one. */
    private static void allTakeExhibitionsThatAreThere(Checks checks) {
        for (int i : new int[] {0, 1, 7, 8}) {
            int count = i;
            there(checks, "12", count, (x, n) -> x.include(n, 11));
            there(checks, "13", count, (x, n) -> x.request(n));
            there(checks, "14", count, (x, n) -> x.cancel(n));
            there(checks, "15", count, (x, n) -> x.stateOf(n));
            there(checks, "16", count, (x, n) -> x.worksOf(n));
            there(checks, "17", count, (x, n) -> x.workOf(n, 0));
            there(checks, "19", count, (x, n) -> x.canTake(n, 0));
            there(checks, "20", count, (x, n) -> x.wallFor(n, 0));
            there(checks, "21", count, (x, n) -> x.wallForBySearch(n, 0));
            there(checks, "22", count, (x, n) -> x.trips(n, 3));
            there(checks, "23", count, (x, n) -> x.tripsByTrying(n, 3));
            checks.range("18 exhibition of " + count, MISSING, () -> {
                LoggiaPlanner x = Museums.counting(4, 4, 12, count);
                for (int k = 0; k < count; k++) {
                    x.request(k);
                }
                return x;
            }, 0, count - 1, (x, n) -> x.wallOf(n, 0));
        }
    }

    private static void there(Checks checks, String promise, int count,
            ObjIntConsumer<LoggiaPlanner> call) {
        checks.range(promise + " exhibition of " + count, MISSING,
                () -> Museums.counting(4, 4, 12, count), 0, count - 1, call);
    }
}
