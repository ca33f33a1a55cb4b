import java.util.Arrays;
import java.util.NoSuchElementException;

/** Promises 11 to 18: exhibitions, from the draft to the cancelling. */
public final class ExhibitionsTest {
    private static final Class<?> INDEX = IndexOutOfBoundsException.class;
    private static final Class<?> MISSING = NoSuchElementException.class;
    private static final Class<?> RANGE = IllegalArgumentException.class;
    private static final Class<?> STATE = IllegalStateException.class;

    public static void main(String[] args) {
        Checks checks = new Checks();
        addExhibition(checks);
        addExhibitionRefuses(checks);
        include(checks);
        includeRefuses(checks);
        request(checks);
        requestRefuses(checks);
        cancel(checks);
        cancelPlansInOrder(checks);
        cancelRefuses(checks);
        questions(checks);
        questionsRefuse(checks);
        checks.end();
    }

    private static void addExhibition(Checks checks) {
        LoggiaPlanner x = Museums.empty();
        checks.due("11 least numbers", x.addExhibition(0, 0, 0), 0);
        checks.due("11 greatest numbers", x.addExhibition(99, 99, 50), 1);
        checks.due("11 all days", x.addExhibition(0, 99, 0), 2);
        checks.due("11 draft", x.stateOf(2), 'd');
        checks.due("11 without works", x.worksOf(2), 0);
        for (int i = 3; i < 8; i++) {
            checks.due("11 number", x.addExhibition(5, 5, 5), i);
        }
    }

    private static void addExhibitionRefuses(Checks checks) {
        int[][] wrong = {{-1, 5, 0}, {100, 100, 0}, {5, 4, 0}, {0, 100, 0}, {0, 5, -1}, {0, 5, 51}};
        for (int[] w : wrong) {
            checks.refused("11 range", RANGE, Museums::small,
                    y -> y.addExhibition(w[0], w[1], w[2]));
        }
        checks.refused("11 range first", RANGE, Museums::full, y -> y.addExhibition(5, 4, 0));
        checks.refused("11 ninth", STATE, Museums::full, y -> y.addExhibition(0, 0, 0));
    }

    private static void include(Checks checks) {
        LoggiaPlanner x = Museums.withWidths(400, 400, 1, 2, 3, 4, 5, 6);
        x.addExhibition(0, 0, 0);
        x.addExhibition(0, 0, 0);
        int[] order = {5, 0, 3, 1, 4};
        for (int i = 0; i < order.length; i++) {
            checks.due("12 number of works", x.include(0, order[i]), i + 1);
        }
        for (int i = 0; i < order.length; i++) {
            checks.due("12 in the order of including", x.workOf(0, i), order[i]);
        }
        checks.due("12 a work in two drafts", x.include(1, 5), 1);
    }

    private static void includeRefuses(Checks checks) {
        checks.refused("12 no exhibition", MISSING, Museums::small, y -> y.include(6, 0));
        checks.refused("12 no exhibition", MISSING, Museums::small, y -> y.include(-1, 0));
        checks.refused("12 exhibition first", MISSING, Museums::small, y -> y.include(6, 99));
        checks.refused("12 no work", INDEX, Museums::small, y -> y.include(Museums.DRAFT, 5));
        checks.refused("12 no work", INDEX, Museums::small, y -> y.include(Museums.DRAFT, -1));
        checks.refused("12 work before state", INDEX, Museums::small,
                y -> y.include(Museums.PLANNED, 5));
        checks.refused("12 planned", STATE, Museums::small, y -> y.include(Museums.PLANNED, 4));
        checks.refused("12 waits", STATE, Museums::small, y -> y.include(Museums.WAITING, 4));
        checks.refused("12 cancelled", STATE, Museums::small, y -> y.include(Museums.CANCELLED, 4));
        checks.refused("12 has it", STATE, Museums::small, y -> y.include(Museums.DRAFT, 0));
        checks.refused("12 has 5", STATE, Museums::full, y -> y.include(0, 11));
    }

    private static void request(Checks checks) {
        LoggiaPlanner x = Museums.withWidths(30, 20, 20, 20);
        Museums.addShow(x, 5, 9, 0, 0);
        Museums.addShow(x, 9, 9, 10, 1);
        Museums.addShow(x, 5, 5, 10, 1);
        Museums.addShow(x, 0, 4, 11, 0);
        Museums.addShow(x, 10, 10, 1, 1, 0);
        checks.due("13 planned", x.request(0), 'p');
        checks.due("13 no room on the last day", x.request(1), 'w');
        checks.due("13 no room on the first day", x.request(2), 'w');
        checks.due("13 too wide with the gap", x.request(3), 'w');
        checks.due("13 the second does not fit", x.request(4), 'w');
        checks.due("13 state", x.stateOf(0), 'p');
        checks.due("13 state", x.stateOf(4), 'w');
        checks.due("13 times", x.planned(), 1);
    }

    private static void requestRefuses(Checks checks) {
        checks.refused("13 no exhibition", MISSING, Museums::small, y -> y.request(6));
        checks.refused("13 no exhibition", MISSING, Museums::small, y -> y.request(-1));
        checks.refused("13 planned", STATE, Museums::small, y -> y.request(Museums.PLANNED));
        checks.refused("13 waits", STATE, Museums::small, y -> y.request(Museums.WAITING));
        checks.refused("13 cancelled", STATE, Museums::small, y -> y.request(Museums.CANCELLED));
        checks.refused("13 no works", UnsupportedOperationException.class, Museums::small,
                y -> y.request(Museums.EMPTY_DRAFT));
        checks.refused("13 state before works", STATE, RequestOfCancelled::made, y -> y.request(0));
    }

    /** An exhibition that was cancelled without works. */
    private static final class RequestOfCancelled {
        static LoggiaPlanner made() {
            LoggiaPlanner x = new LoggiaPlanner();
            x.addExhibition(0, 0, 0);
            x.cancel(0);
            return x;
        }
    }

    private static void cancel(Checks checks) {
        LoggiaPlanner x = Museums.small();
        checks.due("14 one that waits", x.cancel(Museums.WAITING), 0);
        checks.due("14 a draft", x.cancel(Museums.DRAFT), 0);
        checks.due("14 a draft without works", x.cancel(Museums.EMPTY_DRAFT), 0);
        checks.due("14 state", x.stateOf(Museums.DRAFT), 'c');
        x = Museums.small();
        checks.due("14 a planned one", x.cancel(Museums.PLANNED), 1);
        checks.due("14 state", x.stateOf(Museums.PLANNED), 'c');
        checks.due("14 the one that waited", x.stateOf(Museums.WAITING), 'p');
        checks.due("14 works do not hang", x.hanging(1, 10), 0);
        checks.due("14 works stay in it", x.worksOf(Museums.PLANNED), 4);
        checks.due("14 a draft stays", x.stateOf(Museums.DRAFT), 'd');
    }

    /** Of two that need the same room, the lower number gets it, though it was requested later. */
    private static void cancelPlansInOrder(Checks checks) {
        LoggiaPlanner x = Museums.withWidths(30, 10, 30, 20, 20, 10);
        Museums.addShow(x, 5, 9, 0, 0);
        Museums.addShow(x, 5, 9, 0, 1);
        Museums.addShow(x, 5, 9, 0, 2);
        Museums.addShow(x, 6, 6, 0, 3);
        Museums.addShow(x, 6, 6, 0, 3);
        x.request(0);
        x.request(2);
        x.request(1);
        checks.due("14 fits beside", x.request(3), 'p');
        checks.due("14 its wall", x.wallOf(3, 0), 1);
        checks.due("14 away for another", x.request(4), 'w');
        checks.due("14 one of two", x.cancel(0), 1);
        checks.due("14 lower number", x.stateOf(1), 'p');
        checks.due("14 higher number", x.stateOf(2), 'w');
        checks.due("14 plans of others stay", x.wallOf(3, 0), 1);
        checks.due("14 a plan of its own", x.cancel(3), 1);
        checks.due("14 lower wall", Arrays.toString(Museums.wallsOf(x, 4)), "[0]");
        checks.due("14 times", x.planned(), 4);
    }

    private static void cancelRefuses(Checks checks) {
        checks.refused("14 no exhibition", MISSING, Museums::small, y -> y.cancel(6));
        checks.refused("14 no exhibition", MISSING, Museums::small, y -> y.cancel(-1));
        checks.refused("14 twice", STATE, Museums::small, y -> y.cancel(Museums.CANCELLED));
    }

    private static void questions(Checks checks) {
        LoggiaPlanner x = Museums.small();
        String states = "";
        String sizes = "";
        for (int i = 0; i < 6; i++) {
            states += x.stateOf(i);
            sizes += x.worksOf(i);
        }
        checks.due("15 states", states, "pwdcdd");
        checks.due("16 works", sizes, "412101");
        checks.due("17 first of a draft", x.workOf(Museums.DRAFT, 0), 1);
        checks.due("17 second of a draft", x.workOf(Museums.DRAFT, 1), 0);
        checks.due("17 of a cancelled one", x.workOf(Museums.CANCELLED, 0), 2);
        checks.due("18 walls", Arrays.toString(Museums.wallsOf(x, Museums.PLANNED)),
                "[0, 1, 2, 3]");
    }

    private static void questionsRefuse(Checks checks) {
        for (int i = -1; i <= 6; i += 7) {
            int wrong = i;
            checks.refused("15 missing", MISSING, Museums::small, y -> y.stateOf(wrong));
            checks.refused("16 missing", MISSING, Museums::small, y -> y.worksOf(wrong));
            checks.refused("17 missing", MISSING, Museums::small, y -> y.workOf(wrong, 99));
            checks.refused("18 missing", MISSING, Museums::small, y -> y.wallOf(wrong, 99));
        }
        for (int i = -1; i <= 4; i += 5) {
            int wrong = i;
            checks.refused("17 index", INDEX, Museums::small, y -> y.workOf(0, wrong));
            checks.refused("18 index", INDEX, Museums::small, y -> y.wallOf(0, wrong));
        }
        checks.refused("17 no works", INDEX, Museums::small, y -> y.workOf(Museums.EMPTY_DRAFT, 0));
        checks.refused("18 index first", INDEX, Museums::small, y -> y.wallOf(Museums.DRAFT, 2));
        checks.refused("18 draft", STATE, Museums::small, y -> y.wallOf(Museums.DRAFT, 0));
        checks.refused("18 waits", STATE, Museums::small, y -> y.wallOf(Museums.WAITING, 0));
        checks.refused("18 cancelled", STATE, Museums::small, y -> y.wallOf(Museums.CANCELLED, 0));
    }
}
