import java.util.function.Supplier;

/** Promises 6 and 9: works that must not hang together. */
public final class SeparationsTest {
    private static final Class<?> INDEX = IndexOutOfBoundsException.class;
    private static final Class<?> RANGE = IllegalArgumentException.class;
    private static final Class<?> STATE = IllegalStateException.class;

    public static void main(String[] args) {
        Checks checks = new Checks();
        counts(checks);
        answersKinds(checks);
        refusesWrongNumbers(checks);
        refusesWhatHangs(checks);
        refusesAcrossExhibitions(checks);
        plansThoseThatWait(checks);
        checks.end();
    }

    private static void counts(Checks checks) {
        LoggiaPlanner x = Museums.full();
        checks.due("6 first pair", x.separate(0, 11, 'r'), 1);
        checks.due("6 second pair", x.separate(11, 1, 'w'), 2);
        checks.due("6 the same from the other side", x.separate(11, 0, 'r'), 2);
        checks.due("6 changed", x.separate(0, 11, 'w'), 2);
        checks.due("6 third pair", x.separate(0, 1, 'w'), 3);
    }

    private static void answersKinds(Checks checks) {
        LoggiaPlanner x = Museums.full();
        checks.due("9 none", x.separation(3, 4), 'n');
        checks.due("9 the same work", x.separation(3, 3), 'n');
        x.separate(3, 4, 'r');
        checks.due("9 by rooms", x.separation(3, 4), 'r');
        checks.due("9 from the other side", x.separation(4, 3), 'r');
        x.separate(4, 3, 'w');
        checks.due("9 changed", x.separation(3, 4), 'w');
        checks.due("9 from the other side", x.separation(4, 3), 'w');
        checks.due("9 the same work", x.separation(3, 3), 'n');
        checks.due("9 another pair", x.separation(3, 5), 'n');
        checks.due("9 last work", x.separation(11, 0), 'n');
        checks.refused("9 no work", INDEX, Museums::small, y -> y.separation(5, 0));
        checks.refused("9 no work", INDEX, Museums::small, y -> y.separation(-1, 0));
        checks.refused("9 no other", INDEX, Museums::small, y -> y.separation(0, 5));
        checks.refused("9 no other", INDEX, Museums::small, y -> y.separation(0, -1));
    }

    private static void refusesWrongNumbers(Checks checks) {
        checks.refused("6 no work", INDEX, Museums::small, y -> y.separate(-1, 0, 'r'));
        checks.refused("6 no work", INDEX, Museums::small, y -> y.separate(5, 0, 'r'));
        checks.refused("6 no other", INDEX, Museums::small, y -> y.separate(0, -1, 'r'));
        checks.refused("6 no other", INDEX, Museums::small, y -> y.separate(0, 5, 'r'));
        checks.refused("6 index before kind", INDEX, Museums::small, y -> y.separate(5, 5, 'x'));
        checks.refused("6 the same", RANGE, Museums::small, y -> y.separate(4, 4, 'r'));
        checks.refused("6 no kind", RANGE, Museums::small, y -> y.separate(0, 4, 'n'));
        checks.refused("6 no kind", RANGE, Museums::small, y -> y.separate(0, 4, (char) 0));
        checks.refused("6 no kind", RANGE, Museums::small, y -> y.separate(0, 4, 'R'));
        checks.refused("6 kind before state", RANGE, Museums::small, y -> y.separate(0, 1, 'x'));
    }

    /** In Museums.small() the works 0 to 3 hang on the walls 0 to 3. */
    private static void refusesWhatHangs(Checks checks) {
        checks.refused("6 one room", STATE, Museums::small, y -> y.separate(0, 1, 'r'));
        checks.refused("6 one room", STATE, Museums::small, y -> y.separate(3, 2, 'r'));
        LoggiaPlanner x = Museums.small();
        checks.due("6 two walls", x.separate(3, 2, 'w'), 3);
        checks.due("6 two rooms", x.separate(0, 2, 'r'), 4);
        Supplier<LoggiaPlanner> oneWall = () -> {
            LoggiaPlanner y = Museums.withWidths(100, 100, 10, 10);
            Museums.addShow(y, 3, 4, 0, 0, 1);
            y.request(0);
            return y;
        };
        checks.refused("6 one wall", STATE, oneWall, y -> y.separate(0, 1, 'w'));
        checks.refused("6 one wall, so one room", STATE, oneWall, y -> y.separate(1, 0, 'r'));
        LoggiaPlanner free = oneWall.get();
        free.cancel(0);
        checks.due("6 cancelled", free.separate(0, 1, 'w'), 1);
        checks.due("6 another kind", free.separate(0, 1, 'r'), 1);
    }

    private static void refusesAcrossExhibitions(Checks checks) {
        checks.refused("6 a day in common", STATE, () -> twoShows(5), y -> y.separate(0, 1, 'w'));
        checks.refused("6 a day in common", STATE, () -> twoShows(5), y -> y.separate(1, 0, 'r'));
        checks.due("6 no day in common", twoShows(6).separate(0, 1, 'r'), 1);
    }

    private static LoggiaPlanner twoShows(int secondStart) {
        LoggiaPlanner x = Museums.withWidths(100, 100, 10, 10);
        Museums.addShow(x, 3, 5, 0, 0);
        Museums.addShow(x, secondStart, 9, 0, 1);
        x.request(0);
        x.request(1);
        return x;
    }

    private static void plansThoseThatWait(Checks checks) {
        LoggiaPlanner x = Museums.withWidths(100, 100, 10, 10);
        x.separate(0, 1, 'r');
        Museums.addShow(x, 3, 5, 0, 0, 1);
        checks.due("6 one room only", x.request(0), 'w');
        checks.due("6 loosened", x.separate(1, 0, 'w'), 1);
        checks.due("6 planned", x.stateOf(0), 'p');
        checks.due("6 walls", x.wallOf(0, 0) * 10 + x.wallOf(0, 1), 1);
        checks.due("6 times", x.planned(), 1);
    }
}
