import java.util.ArrayList;
import java.util.List;
import java.util.function.Function;
import java.util.function.Supplier;

/** All that a planner answers to questions, written out, refusals too. */
final class Look {
    /** A planner is promised for 512 calls, so each serves for some questions only. */
    private static final int QUESTIONS_OF_ONE = 300;
    private static final int[] DAYS = {-10, -9, -1, 0, 1, 2, 4, 5, 9, 10, 15, 16, 18, 19, 20, 29, 30,
        40, 49, 50, 60, 61, 98, 99, 100, 102, 103, 108, 109};

    private static final List<Function<LoggiaPlanner, Object>> QUESTIONS = questions();
    private static final List<Function<LoggiaPlanner, Object>> CHANGES = changes();

    private Look() {
    }

    /** What no question tells, as the length of an empty wall, shows when more comes to hang. */
    static String nowAndLater(Supplier<LoggiaPlanner> start) {
        StringBuilder text = new StringBuilder(at(start));
        change(start.get(), text);
        text.append(at(() -> {
            LoggiaPlanner planner = start.get();
            change(planner, new StringBuilder());
            return planner;
        }));
        return text.toString();
    }

    private static void change(LoggiaPlanner planner, StringBuilder answers) {
        for (Function<LoggiaPlanner, Object> change : CHANGES) {
            answers.append(answer(planner, change)).append(' ');
        }
    }

    /** Asks planners that are made alike, as the questions are too many for one. */
    private static String at(Supplier<LoggiaPlanner> start) {
        StringBuilder text = new StringBuilder();
        LoggiaPlanner planner = start.get();
        for (int i = 0; i < QUESTIONS.size(); i++) {
            if (i % QUESTIONS_OF_ONE == 0) {
                planner = start.get();
            }
            text.append(answer(planner, QUESTIONS.get(i))).append(' ');
        }
        return text.toString();
    }

    private static String answer(LoggiaPlanner planner, Function<LoggiaPlanner, Object> question) {
        try {
            return question.apply(planner).toString();
        } catch (RuntimeException e) {
            return e.getClass().getSimpleName();
        }
    }

    private static List<Function<LoggiaPlanner, Object>> changes() {
        List<Function<LoggiaPlanner, Object>> all = new ArrayList<>();
        for (int i = 0; i < 8; i++) {
            int exhibition = i;
            all.add(x -> x.request(exhibition));
        }
        all.add(x -> x.addRoom(50, 10, 70, 65));
        all.add(x -> x.addLender(120, 2, 30));
        all.add(x -> x.addWork(30, 0, 100, 100, 50, 0));
        all.add(x -> x.addWork(35, 0, 100, 100, 60, 1));
        all.add(x -> x.addExhibition(10, 25, 2));
        for (int i = 0; i < 8; i++) {
            int work = i;
            all.add(x -> x.include(6, work));
        }
        all.add(x -> x.request(6));
        all.add(x -> x.setClimate(0, 60, 10));
        all.add(x -> x.setClimate(1, 50, 10));
        all.add(x -> x.separate(0, 2, 'w'));
        all.add(x -> x.separate(1, 4, 'r'));
        all.add(x -> x.cancel(0));
        all.add(x -> x.cancel(3));
        return all;
    }

    private static List<Function<LoggiaPlanner, Object>> questions() {
        List<Function<LoggiaPlanner, Object>> all = new ArrayList<>();
        all.add(LoggiaPlanner::rooms);
        all.add(LoggiaPlanner::works);
        all.add(LoggiaPlanner::planned);
        all.add(LoggiaPlanner::insured);
        all.add(LoggiaPlanner::meanWorks);
        all.add(LoggiaPlanner::isSafe);
        for (int i = 0; i <= 12; i++) {
            askOfWork(all, i);
        }
        for (int i = 0; i <= 8; i++) {
            askOfExhibition(all, i);
            askOfWall(all, i);
        }
        return all;
    }

    private static void askOfWork(List<Function<LoggiaPlanner, Object>> all, int work) {
        for (int i = 0; i <= 12; i++) {
            int other = i;
            all.add(x -> x.separation(work, other));
        }
        for (int i = 0; i <= 4; i++) {
            int room = i;
            all.add(x -> x.canHang(work, room));
        }
        for (int day : DAYS) {
            all.add(x -> x.awayFor(work, day));
        }
    }

    private static void askOfExhibition(List<Function<LoggiaPlanner, Object>> all, int number) {
        all.add(x -> x.stateOf(number));
        all.add(x -> x.worksOf(number));
        for (int i = 0; i <= 5; i++) {
            int index = i;
            all.add(x -> x.workOf(number, index));
            all.add(x -> x.wallOf(number, index));
            all.add(x -> x.canTake(number, index));
            all.add(x -> x.wallFor(number, index));
            all.add(x -> x.wallForBySearch(number, index));
        }
        for (int i = 0; i <= 4; i++) {
            int lender = i;
            all.add(x -> x.trips(number, lender));
            all.add(x -> x.tripsByTrying(number, lender));
        }
    }

    private static void askOfWall(List<Function<LoggiaPlanner, Object>> all, int wall) {
        for (int day : DAYS) {
            all.add(x -> x.taken(wall, day));
            all.add(x -> x.hanging(wall, day));
            all.add(x -> x.share(wall, day));
        }
    }
}
