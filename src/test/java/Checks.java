import java.util.Objects;
import java.util.function.Consumer;
import java.util.function.Supplier;

/** Counts the answers that are not due; a test ends with exit code 1 if there was one. */
final class Checks {
    private int made = 0;
    private int wrong = 0;

    void due(String what, Object answer, Object due) {
        made++;
        if (!Objects.equals(answer, due)) {
            wrong++;
            System.out.println(what + ": answered " + answer + ", due is " + due);
        }
    }

    /** The call must throw just this exception, and no later answer may tell that it was made. */
    void refused(String what, Class<?> due, Supplier<LoggiaPlanner> start,
            Consumer<LoggiaPlanner> call) {
        due(what, thrown(start.get(), call), due.getName());
        due(what + " changes nothing", Look.at(() -> {
            LoggiaPlanner planner = start.get();
            thrown(planner, call);
            return planner;
        }), Look.at(start));
    }

    static String thrown(LoggiaPlanner planner, Consumer<LoggiaPlanner> call) {
        try {
            call.accept(planner);
            return "nothing";
        } catch (RuntimeException e) {
            return name(e);
        }
    }

    /** Tells one that a library call threw, for the planner must throw by its own statements alone. */
    static String name(RuntimeException e) {
        StackTraceElement[] trace = e.getStackTrace();
        String thrower = trace.length == 0 ? "" : trace[0].getClassName();
        boolean byLibrary = thrower.startsWith("java.") || thrower.startsWith("jdk.");
        return e.getClass().getName() + (byLibrary ? " of the library" : "");
    }

    void end() {
        System.out.println(made + " checks, " + wrong + " wrong");
        if (wrong > 0 || made == 0) {
            System.exit(1);
        }
    }
}
