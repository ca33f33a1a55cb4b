import java.util.function.Function;

/** "An object is used for at most 512 calls after it has been made": the last one is answered rightly. */
public final class LastCallTest {
    private static final int MOST_CALLS = 512;

    private final Checks checks;
    private final LoggiaPlanner x = new LoggiaPlanner();
    private int calls = 0;

    private LastCallTest(Checks checks) {
        this.checks = checks;
    }

    public static void main(String[] args) {
        Checks checks = new Checks();
        new LastCallTest(checks).plansUntilTheLastCall();
        new LastCallTest(checks).asksUntilTheLastCall();
        new LastCallTest(checks).refusesUntilTheLastCall();
        checks.end();
    }

    private void due(String what, Object due, Function<LoggiaPlanner, Object> call) {
        calls++;
        checks.due("call " + calls + ", " + what, call.apply(x), due);
    }

    /** Two rooms, and five works of a lender in an exhibition of all days, planned: 15 calls. */
    private void planAtFirst() {
        due("room", 0, y -> y.addRoom(50, 50, 400, 400));
        due("room", 1, y -> y.addRoom(40, 50, 400, 400));
        due("lender", 0, y -> y.addLender(999, 0, 100));
        for (int i = 0; i < 5; i++) {
            int work = i;
            due("work", work, y -> y.addWork(30, 45, 50, 50, 999, 0));
        }
        due("exhibition", 0, y -> y.addExhibition(0, 99, 50));
        for (int i = 0; i < 5; i++) {
            int work = i;
            due("include", work + 1, y -> y.include(0, work));
        }
        due("request", 'p', y -> y.request(0));
    }

    private void plansUntilTheLastCall() {
        planAtFirst();
        int times = 1;
        while (calls + 4 < MOST_CALLS) {
            due("takes down", 1, y -> y.setClimate(0, 44, 50));
            due("plans anew", 0, y -> y.setClimate(0, 45, 50));
            times++;
        }
        int due = times;
        due("insured", 5L * 999 * 100, LoggiaPlanner::insured);
        due("taken", 400, y -> y.taken(0, 99));
        while (calls < MOST_CALLS) {
            due("planned", due, LoggiaPlanner::planned);
        }
    }

    private void asksUntilTheLastCall() {
        planAtFirst();
        while (calls < MOST_CALLS) {
            due("safe", true, LoggiaPlanner::isSafe);
        }
    }

    private void refusesUntilTheLastCall() {
        planAtFirst();
        while (calls + 2 < MOST_CALLS) {
            due("refused", IllegalStateException.class.getName(),
                    y -> Checks.thrown(y, z -> z.request(0)));
        }
        due("cancel", 0, y -> y.cancel(0));
        due("state", 'c', y -> y.stateOf(0));
    }
}
