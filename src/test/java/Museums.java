import java.util.List;
import java.util.function.Supplier;

/** Planners with which several tests begin. */
final class Museums {
    static final int PLANNED = 0;
    static final int WAITING = 1;
    static final int DRAFT = 2;
    static final int CANCELLED = 3;
    static final int EMPTY_DRAFT = 4;
    static final int LENT_TOO_DEAR = 5;

    private Museums() {
    }

    static LoggiaPlanner empty() {
        return new LoggiaPlanner();
    }

    static List<Supplier<LoggiaPlanner>> emptyAndSmall() {
        return List.of(Museums::empty, Museums::small);
    }

    /** Two rooms, two lenders, five works, and an exhibition in each state. */
    static LoggiaPlanner small() {
        LoggiaPlanner x = new LoggiaPlanner();
        x.addRoom(50, 50, 100, 80);
        x.addRoom(45, 20, 60, 60);
        x.addLender(150, 3, 20);
        x.addLender(90, 0, 100);
        x.addWork(40, 40, 60, 60, 100, -1);
        x.addWork(40, 40, 60, 60, 100, 0);
        x.addWork(40, 40, 60, 30, 80, 0);
        x.addWork(30, 40, 48, 60, 60, 0);
        x.addWork(10, 0, 100, 100, 91, 1);
        x.separate(0, 1, 'w');
        x.separate(1, 3, 'r');
        addShow(x, 5, 15, 10, 0, 1, 2, 3);
        x.request(PLANNED);
        addShow(x, 12, 20, 0, 0);
        x.request(WAITING);
        addShow(x, 30, 40, 5, 1, 0);
        addShow(x, 50, 60, 0, 2);
        x.cancel(CANCELLED);
        addShow(x, 0, 99, 0);
        addShow(x, 1, 1, 0, 4);
        return x;
    }

    /** All that a planner can hold: 4 rooms, 4 lenders, 12 works and 8 exhibitions. */
    static LoggiaPlanner full() {
        LoggiaPlanner x = new LoggiaPlanner();
        for (int i = 0; i < 4; i++) {
            x.addRoom(50, 10, 100 + i, 90 + i);
            x.addLender(500, i, 50);
        }
        for (int i = 0; i < 12; i++) {
            x.addWork(20 + 3 * i, 0, 100, 50, 5 + i, i % 5 - 1);
        }
        for (int i = 0; i < 8; i++) {
            int first = 10 + i % 3 * 10;
            addShow(x, first, first + 12, i, i, i + 1, i + 2, i + 3, i + 4);
        }
        return x;
    }

    /** So many of each; the exhibitions are drafts, each with the work of its number if it is there. */
    static LoggiaPlanner counting(int rooms, int lenders, int works, int exhibitions) {
        LoggiaPlanner x = new LoggiaPlanner();
        for (int i = 0; i < rooms; i++) {
            x.addRoom(50, 50, 100 + i, 90 + i);
        }
        for (int i = 0; i < lenders; i++) {
            x.addLender(500, i, 50);
        }
        for (int i = 0; i < works; i++) {
            x.addWork(20 + i, 0, 100, 100, 5 + i, -1);
        }
        for (int i = 0; i < exhibitions; i++) {
            x.addExhibition(10 + i, 20 + i, i);
            if (i < works) {
                x.include(i, i);
            }
        }
        return x;
    }

    /** A draft, the exhibition 0, with the first so many of 12 works, for which there is room. */
    static LoggiaPlanner withFirstWorks(int count) {
        LoggiaPlanner x = counting(1, 1, 12, 0);
        x.addExhibition(10, 20, 1);
        for (int i = 0; i < count; i++) {
            x.include(0, i);
        }
        return x;
    }

    /** As small(), but the works 0 to 3 can hang nowhere, so that the exhibition PLANNED waits. */
    static LoggiaPlanner smallTakenDown() {
        LoggiaPlanner x = small();
        x.setClimate(0, 0, 100);
        x.setClimate(1, 0, 100);
        return x;
    }

    /** As small(), but the exhibition PLANNED was cancelled, and the one that waited is planned. */
    static LoggiaPlanner smallCancelled() {
        LoggiaPlanner x = small();
        x.cancel(PLANNED);
        return x;
    }

    /** A room whose climate every work stands, and works of the museum of these widths. */
    static LoggiaPlanner withWidths(int first, int second, int... widths) {
        LoggiaPlanner x = new LoggiaPlanner();
        x.addRoom(50, 50, first, second);
        for (int width : widths) {
            x.addWork(width, 0, 100, 100, 1, -1);
        }
        return x;
    }

    static int addShow(LoggiaPlanner x, int first, int last, int gap, int... works) {
        int exhibition = x.addExhibition(first, last, gap);
        for (int work : works) {
            x.include(exhibition, work);
        }
        return exhibition;
    }

    static int[] wallsOf(LoggiaPlanner x, int exhibition) {
        int[] walls = new int[x.worksOf(exhibition)];
        for (int i = 0; i < walls.length; i++) {
            walls[i] = x.wallOf(exhibition, i);
        }
        return walls;
    }
}
