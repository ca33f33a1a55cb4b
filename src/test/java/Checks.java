import java.util.Objects;
import java.util.function.Consumer;
import java.util.function.ObjIntConsumer;
import java.util.function.Supplier;

/** Counts the answers that are not due; a test ends with exit code 1 if there was one. */
final class Checks {
    private static final int TIMES_12_WRAPS_TO_8 = 357913942;
    private static final int TIMES_2_WRAPS_TO_0 = Integer.MIN_VALUE;
    private static final int TIMES_2_WRAPS_BELOW_0 = 1 << 30;

    private int made = 0;
    private int wrong = 0;
    private Supplier<LoggiaPlanner> lastStart = null;
    private String lastLook = "";

    void due(String what, Object answer, Object due) {
        made++;
        if (!Objects.equals(answer, due)) {
            wrong++;
            System.out.println(what + ": answered " + answer + ", due is " + due);
        }
    }

    /** The call must throw just this exception, and no later answer may tell that it was made. */
    void refused(String what, Class<?> due, Supplier<LoggiaPlanner> start,
            Consumer<LoggiaPlanner> call) {
        due(what, thrown(start.get(), call), due.getName());
        due(what + " changes nothing", Look.nowAndLater(() -> {
            LoggiaPlanner planner = start.get();
            thrown(planner, call);
            return planner;
        }), lookAt(start));
    }

    private String lookAt(Supplier<LoggiaPlanner> start) {
        if (start != lastStart) {
            lastStart = start;
            lastLook = Look.nowAndLater(start);
        }
        return lastLook;
    }

    void taken(String what, Supplier<LoggiaPlanner> start, Consumer<LoggiaPlanner> call) {
        due(what, thrown(start.get(), call), "nothing");
    }

    /** A call takes the first and the last number of a range, and refuses all others. */
    void range(String what, Class<?> due, Supplier<LoggiaPlanner> start, int least, int most,
            ObjIntConsumer<LoggiaPlanner> call) {
        if (least <= most) {
            taken(what + ", the least " + least, start, x -> call.accept(x, least));
            taken(what + ", the greatest " + most, start, x -> call.accept(x, most));
        }
        outside(what, due, start, least, most, call);
    }

    /** Next to the range, far off, and such that too few bits would take them for one in it. */
    void outside(String what, Class<?> due, Supplier<LoggiaPlanner> start, int least, int most,
            ObjIntConsumer<LoggiaPlanner> call) {
        int[] beside = {least - 1, most + 1};
        int[] alikeInBytes = {least - 256, most + 256, least - 65536, most + 65536};
        int[] farOff = {Integer.MIN_VALUE, Integer.MIN_VALUE + 1, Integer.MAX_VALUE,
            TIMES_2_WRAPS_TO_0 + least, TIMES_2_WRAPS_BELOW_0, TIMES_12_WRAPS_TO_8};
        for (int[] numbers : new int[][] {beside, alikeInBytes, farOff}) {
            for (int number : numbers) {
                if (number < least || number > most) {
                    refused(what + " " + number, due, start, x -> call.accept(x, number));
                }
            }
        }
    }

    static String thrown(LoggiaPlanner planner, Consumer<LoggiaPlanner> call) {
        try {
            call.accept(planner);
            return "nothing";
        } catch (RuntimeException e) {
            return name(e);
        }
    }

    /** Tells one that a library call threw, for the planner must throw by its own statements alone. */
    static String name(RuntimeException e) {
        StackTraceElement[] trace = e.getStackTrace();
        String thrower = trace.length == 0 ? "" : trace[0].getClassName();
        boolean byLibrary = thrower.startsWith("java.") || thrower.startsWith("jdk.");
        return e.getClass().getName() + (byLibrary ? " of the library" : "");
    }

    void end() {
        System.out.println(made + " checks, " + wrong + " wrong");
        if (wrong > 0 || made == 0) {
            System.exit(1);
        }
    }
}
