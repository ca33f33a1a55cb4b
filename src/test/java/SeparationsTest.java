import java.util.function.Supplier;

/** Promises 6 and 9: works that must not hang together. */
public final class SeparationsTest {
    private static final Class<?> INDEX = IndexOutOfBoundsException.class;
    private static final Class<?> RANGE = IllegalArgumentException.class;
    private static final Class<?> STATE = IllegalStateException.class;
    private static final int CALLS_OF_ONE = 400;

    public static void main(String[] args) {
        Checks checks = new Checks();
        counts(checks);
        countsUpToAllPairs(checks);
        answersKinds(checks);
        takesWorksThatAreThere(checks);
        refusesTheSameWork(checks);
        takesTwoKinds(checks);
        refusesWhatHangs(checks);
        refusesOneWall(checks);
        refusesOneRoom(checks);
        looksAtEachDayInCommon(checks);
        looksOnlyAtWhatHangs(checks);
        plansThoseThatWait(checks);
        plansInTheOrderOfNumbers(checks);
        checks.end();
    }

    private static void counts(Checks checks) {
        LoggiaPlanner x = Museums.full();
        checks.due("6 first pair", x.separate(0, 11, 'r'), 1);
        checks.due("6 second pair", x.separate(11, 1, 'w'), 2);
        checks.due("6 the same from the other side", x.separate(11, 0, 'r'), 2);
        checks.due("6 changed", x.separate(0, 11, 'w'), 2);
        checks.due("6 third pair", x.separate(0, 1, 'w'), 3);
    }

    /** "Returns the number of pairs that are separated." 12 works make 66 pairs. */
    private static void countsUpToAllPairs(Checks checks) {
        LoggiaPlanner x = Museums.counting(0, 0, 12, 0);
        int pairs = 0;
        for (int i = 0; i < 12; i++) {
            for (int k = 0; k < i; k++) {
                pairs++;
                checks.due("6 pairs", x.separate(k, i, pairs % 2 == 0 ? 'r' : 'w'), pairs);
            }
        }
        checks.due("6 all pairs", pairs, 66);
        checks.due("6 changes the first pair", x.separate(1, 0, 'r'), 66);
        checks.due("6 changes the last pair", x.separate(11, 10, 'r'), 66);
        pairs = 0;
        for (int i = 0; i < 12; i++) {
            checks.due("9 of one work", x.separation(i, i), 'n');
            for (int k = 0; k < i; k++) {
                pairs++;
                char due = pairs % 2 == 0 || pairs == 1 || pairs == 66 ? 'r' : 'w';
                checks.due("9 of " + k + " and " + i, x.separation(k, i), due);
                checks.due("9 of " + i + " and " + k, x.separation(i, k), due);
            }
        }
    }

    /** "Returns 'r', 'w', or 'n' if they are not separated." */
    private static void answersKinds(Checks checks) {
        LoggiaPlanner x = Museums.full();
        checks.due("9 none", x.separation(3, 4), 'n');
        checks.due("9 the same work", x.separation(3, 3), 'n');
        x.separate(3, 4, 'r');
        checks.due("9 by rooms", x.separation(3, 4), 'r');
        checks.due("9 from the other side", x.separation(4, 3), 'r');
        x.separate(4, 3, 'w');
        checks.due("9 changed", x.separation(3, 4), 'w');
        checks.due("9 from the other side", x.separation(4, 3), 'w');
        checks.due("9 the same work", x.separation(3, 3), 'n');
        checks.due("9 another pair", x.separation(3, 5), 'n');
        checks.due("9 last work", x.separation(11, 0), 'n');
    }

    /** "Throws IndexOutOfBoundsException if there is no such work, for either" */
    private static void takesWorksThatAreThere(Checks checks) {
        for (int i : new int[] {0, 1, 2, 11, 12}) {
            int count = i;
            Supplier<LoggiaPlanner> start = () -> Museums.counting(4, 4, count, 8);
            int last = Math.max(0, count - 1);
            checks.range("9 work of " + count, INDEX, start, 0, count - 1,
                    (x, n) -> x.separation(n, last));
            checks.range("9 other of " + count, INDEX, start, 0, count - 1,
                    (x, n) -> x.separation(last, n));
        }
        for (int i : new int[] {3, 11, 12}) {
            int count = i;
            Supplier<LoggiaPlanner> start = () -> Museums.counting(4, 4, count, 8);
            checks.range("6 work of " + count, INDEX, start, 0, count - 1,
                    (x, n) -> x.separate(n, 1, 'r'));
            checks.range("6 other of " + count, INDEX, start, 0, count - 1,
                    (x, n) -> x.separate(1, n, 'w'));
        }
        Supplier<LoggiaPlanner> one = () -> Museums.counting(4, 4, 1, 8);
        checks.refused("6 no other beside one", INDEX, one, x -> x.separate(0, 1, 'r'));
        checks.refused("6 no work beside one", INDEX, one, x -> x.separate(1, 0, 'r'));
        checks.refused("6 neither", INDEX, Museums::empty, x -> x.separate(0, 0, 'r'));
        checks.refused("6 neither", INDEX, Museums::small, x -> x.separate(5, 6, 'r'));
        checks.refused("9 neither", INDEX, Museums::small, x -> x.separation(-1, 5));
        checks.taken("6 the last and the first", Museums::full, x -> x.separate(11, 0, 'r'));
        checks.taken("6 the first and the last", Museums::full, x -> x.separate(0, 11, 'r'));
    }

    /** "Throws IllegalArgumentException if both are the same" */
    private static void refusesTheSameWork(Checks checks) {
        for (int i = 0; i < 12; i++) {
            int work = i;
            checks.refused("6 the same", RANGE, Museums::full, x -> x.separate(work, work, 'r'));
            checks.refused("6 the same", RANGE, Museums::full, x -> x.separate(work, work, 'w'));
        }
        checks.refused("6 the same that hangs", RANGE, Museums::small, x -> x.separate(0, 0, 'w'));
    }

    /** "... or there is no such kind": of all signs, only two are kinds. */
    private static void takesTwoKinds(Checks checks) {
        LoggiaPlanner x = Museums.counting(0, 0, 2, 0);
        for (int i = 0; i <= Character.MAX_VALUE; i++) {
            if (i % CALLS_OF_ONE == 0) {
                x = Museums.counting(0, 0, 2, 0);
            }
            char kind = (char) i;
            checks.due("6 kind " + i, Checks.thrown(x, y -> y.separate(0, 1, kind)),
                    kind == 'r' || kind == 'w' ? "nothing" : RANGE.getName());
        }
        char[] wrong = {'n', 'R', 'W', 'q', 's', 'v', 'x', 0, ' ', '0', 'r' + 256, 'w' + 256,
            Character.MAX_VALUE};
        for (char kind : wrong) {
            checks.refused("6 no kind", RANGE, Museums::small, y -> y.separate(0, 4, kind));
            checks.refused("6 no kind, separated before", RANGE, Museums::small,
                    y -> y.separate(0, 1, kind));
        }
    }

    /** In Museums.small() the works 0 to 3 hang on the walls 0 to 3. */
    private static void refusesWhatHangs(Checks checks) {
        checks.refused("6 one room", STATE, Museums::small, y -> y.separate(0, 1, 'r'));
        checks.refused("6 one room", STATE, Museums::small, y -> y.separate(3, 2, 'r'));
        LoggiaPlanner x = Museums.small();
        checks.due("6 two walls", x.separate(3, 2, 'w'), 3);
        checks.due("6 two rooms", x.separate(0, 2, 'r'), 4);
        checks.due("6 two rooms, walls side by side", x.separate(1, 2, 'r'), 5);
    }

    private static LoggiaPlanner onOneWall() {
        LoggiaPlanner y = Museums.withWidths(100, 100, 10, 10);
        Museums.addShow(y, 3, 4, 0, 0, 1);
        y.request(0);
        return y;
    }

    private static void refusesOneWall(Checks checks) {
        Supplier<LoggiaPlanner> oneWall = SeparationsTest::onOneWall;
        checks.refused("6 one wall", STATE, oneWall, y -> y.separate(0, 1, 'w'));
        checks.refused("6 one wall", STATE, oneWall, y -> y.separate(1, 0, 'w'));
        checks.refused("6 one wall, so one room", STATE, oneWall, y -> y.separate(1, 0, 'r'));
        LoggiaPlanner free = oneWall.get();
        free.cancel(0);
        checks.due("6 cancelled", free.separate(0, 1, 'w'), 1);
        checks.due("6 another kind", free.separate(0, 1, 'r'), 1);
    }

    /** On each pair of the walls 0 to 7, of one exhibition: 'r' is broken in a room, 'w' on a wall. */
    private static void refusesOneRoom(Checks checks) {
        for (int i = 0; i < 8; i++) {
            for (int k = 0; k < 8; k++) {
                int wall = i;
                int other = k;
                Supplier<LoggiaPlanner> start = () -> hungOn(wall, other);
                checks.due("6 hangs", start.get().wallOf(0, 0), wall);
                checks.due("6 hangs", start.get().wallOf(0, 1), other);
                checks.due("6 'r' on " + wall + " and " + other,
                        Checks.thrown(start.get(), x -> x.separate(0, 1, 'r')),
                        wall / 2 == other / 2 ? STATE.getName() : "nothing");
                checks.due("6 'w' on " + wall + " and " + other,
                        Checks.thrown(start.get(), x -> x.separate(0, 1, 'w')),
                        wall == other ? STATE.getName() : "nothing");
            }
        }
    }

    /** The work 0 fits only on the one wall, and the work 1 only on the other one. */
    private static LoggiaPlanner hungOn(int wall, int other) {
        LoggiaPlanner x = Museums.empty();
        for (int room = 0; room < 4; room++) {
            x.addRoom(10 * room, 0, 20, 60);
        }
        for (int place : new int[] {wall, other}) {
            int humidity = 10 * (place / 2);
            x.addWork(place % 2 == 0 ? 10 : 30, humidity, humidity, 0, 1, -1);
        }
        Museums.addShow(x, 0, 9, 0, 0, 1);
        x.request(0);
        return x;
    }

    /** The work 0 hangs on the first two of these days, the work 1 on the last two; on one wall. */
    private static LoggiaPlanner twoShows(int... days) {
        LoggiaPlanner x = Museums.counting(1, 0, 0, 0);
        x.addWork(10, 0, 60, 60, 1, -1);
        x.addWork(10, 0, 60, 60, 1, -1);
        Museums.addShow(x, days[0], days[1], 0, 0);
        Museums.addShow(x, days[2], days[3], 0, 1);
        x.request(0);
        x.request(1);
        return x;
    }

    /** "If they hang on some day so that this would be broken": the days as they overlap. */
    private static void looksAtEachDayInCommon(Checks checks) {
        int[][] common = {{0, 0, 0, 0}, {99, 99, 99, 99}, {0, 99, 0, 0}, {0, 99, 99, 99},
            {10, 20, 20, 30}, {20, 30, 10, 20}, {10, 20, 12, 18}, {12, 18, 10, 20}, {10, 20, 10, 20}};
        for (int[] days : common) {
            checks.refused("6 a day in common", STATE, () -> twoShows(days), y -> y.separate(0, 1, 'w'));
            checks.refused("6 a day in common", STATE, () -> twoShows(days), y -> y.separate(1, 0, 'r'));
        }
        int[][] apart = {{0, 0, 1, 1}, {98, 98, 99, 99}, {0, 98, 99, 99}, {1, 99, 0, 0},
            {10, 20, 21, 30}, {21, 30, 10, 20}};
        for (int[] days : apart) {
            checks.due("6 no day in common", twoShows(days).separate(0, 1, 'w'), 1);
            checks.due("6 no day in common", twoShows(days).separate(1, 0, 'r'), 1);
        }
    }

    /** Of two exhibitions, only those that are planned count. */
    private static void looksOnlyAtWhatHangs(Checks checks) {
        int[] days = {10, 20, 10, 20};
        checks.refused("6 both hang", STATE, () -> twoShows(days), y -> y.separate(0, 1, 'r'));
        LoggiaPlanner x = twoShows(days);
        x.cancel(0);
        checks.due("6 one is cancelled", x.separate(0, 1, 'r'), 1);
        x = twoShows(days);
        x.cancel(1);
        checks.due("6 the other is cancelled", x.separate(0, 1, 'r'), 1);
        x = twoShows(days);
        checks.due("6 both are taken down", x.setClimate(0, 100, 100), 2);
        checks.due("6 both wait", x.separate(0, 1, 'r'), 1);
        x.setClimate(0, 50, 50);
        checks.due("6 one is planned again", x.stateOf(0), 'p');
        checks.due("6 the other must not hang", x.stateOf(1), 'w');
        checks.due("6 loosened", x.separate(0, 1, 'w'), 1);
        checks.due("6 on the other wall", x.wallOf(1, 0), 1);
        checks.due("6 a draft does not hang", draftBeside().separate(0, 1, 'r'), 1);
        checks.due("6 nor one with both", draftOfBoth().separate(1, 0, 'w'), 1);
    }

    /** The work 0 hangs for the exhibition 0; the exhibition 1 is a draft on the same days. */
    private static LoggiaPlanner draftBeside() {
        LoggiaPlanner x = Museums.withWidths(100, 100, 10, 10);
        Museums.addShow(x, 3, 5, 0, 0);
        Museums.addShow(x, 3, 5, 0, 1);
        x.request(0);
        return x;
    }

    private static LoggiaPlanner draftOfBoth() {
        LoggiaPlanner x = draftBeside();
        x.include(1, 0);
        return x;
    }

    /** "Those exhibitions that wait are looked at." */
    private static void plansThoseThatWait(Checks checks) {
        LoggiaPlanner x = Museums.withWidths(100, 100, 10, 10);
        x.separate(0, 1, 'r');
        Museums.addShow(x, 3, 5, 0, 0, 1);
        checks.due("6 one room only", x.request(0), 'w');
        checks.due("6 loosened", x.separate(1, 0, 'w'), 1);
        checks.due("6 planned", x.stateOf(0), 'p');
        checks.due("6 walls", x.wallOf(0, 0) * 10 + x.wallOf(0, 1), 1);
        checks.due("6 times", x.planned(), 1);
    }

    /** "Those that wait are looked at in the order of their numbers", each once. */
    private static void plansInTheOrderOfNumbers(Checks checks) {
        LoggiaPlanner x = Museums.withWidths(100, 100, 10, 10);
        x.separate(0, 1, 'r');
        Museums.addShow(x, 3, 5, 0, 0, 1);
        Museums.addShow(x, 5, 9, 0, 1, 0);
        Museums.addShow(x, 6, 9, 0, 1, 0);
        for (int i = 2; i >= 0; i--) {
            checks.due("6 one room only", x.request(i), 'w');
        }
        checks.due("6 loosened", x.separate(0, 1, 'w'), 1);
        checks.due("6 the lowest number", x.stateOf(0), 'p');
        checks.due("6 a day in common with it", x.stateOf(1), 'w');
        checks.due("6 no day in common with it", x.stateOf(2), 'p');
        checks.due("6 times", x.planned(), 2);
    }
}
