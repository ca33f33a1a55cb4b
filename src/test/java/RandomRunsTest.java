import java.util.function.Supplier;

/** Promises 1 to 31: long runs of calls, each answered by the planner and by a slow one alike. */
public final class RandomRunsTest {
    private static final int RUNS = 1000;
    /** The document promises nothing of later calls. */
    private static final int MOST_CALLS = 512;
    private static final int FIRST_ADDITIONS = 12;

    private final Checks checks;
    private final int run;
    private final LoggiaPlanner fast = new LoggiaPlanner();
    private final DayByDay slow = new DayByDay();
    private long seed;
    private int calls = 0;

    private RandomRunsTest(Checks checks, int run) {
        this.checks = checks;
        this.run = run;
        seed = 1000003L * run + 17;
    }

    public static void main(String[] args) {
        Checks checks = new Checks();
        for (int run = 0; run < RUNS; run++) {
            RandomRunsTest test = new RandomRunsTest(checks, run);
            while (test.calls < MOST_CALLS) {
                test.callSome();
            }
        }
        checks.end();
    }

    /** The same numbers in each run of the test, so that a failure can be seen again. */
    private int number(int least, int most) {
        seed = seed * 6364136223846793005L + 1442695040888963407L;
        return least + (int) ((seed >>> 33) % (most - least + 1));
    }

    /** Mostly a number that there is, at times one that is just or far out of range. */
    private int index(int size) {
        int[] outside = {-1, size, Integer.MIN_VALUE, Integer.MAX_VALUE};
        return number(0, 19) == 0 ? outside[number(0, 3)] : number(0, Math.max(0, size - 1));
    }

    private int exhibition() {
        return index(slow.exhibitions());
    }

    private int work() {
        return index(slow.works());
    }

    private int room() {
        return index(slow.rooms());
    }

    private void callSome() {
        int kind = number(0, 99);
        if (calls < FIRST_ADDITIONS || kind < 4) {
            addOne(number(0, 5));
        } else if (kind < 12 && slow.exhibitions() < 8) {
            tellWholeExhibition();
        } else if (kind < 35) {
            changeOne(number(0, 9));
        } else {
            askOne(number(0, 14));
        }
    }

    private void tellWholeExhibition() {
        addExhibition();
        int exhibition = slow.exhibitions() - 1;
        int works = number(1, 5);
        for (int i = 0; i < works; i++) {
            include(exhibition, work());
        }
        int place = number(0, works - 1);
        same("wallFor", () -> fast.wallFor(exhibition, place),
                () -> slow.wallFor(exhibition, place));
        same("wallForBySearch", () -> fast.wallForBySearch(exhibition, place),
                () -> slow.wallFor(exhibition, place));
        same("request", () -> fast.request(exhibition), () -> slow.request(exhibition));
    }

    private void include(int exhibition, int work) {
        same("include", () -> fast.include(exhibition, work),
                () -> slow.include(exhibition, work));
    }

    private void addOne(int kind) {
        switch (kind) {
            case 0 -> addRoom();
            case 1 -> addLender();
            case 2 -> addExhibition();
            default -> addWork();
        }
    }

    private void addRoom() {
        int humidity = humidity();
        int light = light();
        int first = number(0, 9) == 0 ? number(0, 401) : number(20, 120);
        int second = number(0, 9) == 0 ? number(0, 401) : number(20, 120);
        same("addRoom", () -> fast.addRoom(humidity, light, first, second),
                () -> slow.addRoom(humidity, light, first, second));
    }

    private int humidity() {
        return number(0, 9) == 0 ? number(-1, 101) : number(45, 55);
    }

    private int light() {
        return number(0, 9) == 0 ? number(-1, 101) : number(10, 30);
    }

    private void addLender() {
        int limit = number(0, 9) == 0 ? number(0, 10000) : number(80, 200);
        int days = number(0, 9) == 0 ? number(-1, 10) : number(0, 4);
        int longest = number(0, 9) == 0 ? number(0, 101) : number(15, 40);
        same("addLender", () -> fast.addLender(limit, days, longest),
                () -> slow.addLender(limit, days, longest));
    }

    private void addWork() {
        int width = number(0, 19) == 0 ? number(0, 201) : number(5, 60);
        int low = number(0, 19) == 0 ? number(-1, 101) : number(30, 48);
        int high = number(0, 19) == 0 ? number(-1, 101) : number(52, 70);
        int light = number(0, 19) == 0 ? number(-1, 101) : number(25, 60);
        int value = number(0, 19) == 0 ? number(0, 1000) : number(1, 120);
        int lender = number(0, 2) == 0 ? -1 : index(slow.lenders());
        same("addWork", () -> fast.addWork(width, low, high, light, value, lender),
                () -> slow.addWork(width, low, high, light, value, lender));
    }

    private void addExhibition() {
        int first = number(0, 9) == 0 ? number(-1, 100) : number(2, 75);
        int last = number(0, 9) == 0 ? number(-1, 100) : first + number(0, 25);
        int gap = number(0, 9) == 0 ? number(-1, 51) : number(0, 10);
        same("addExhibition", () -> fast.addExhibition(first, last, gap),
                () -> slow.addExhibition(first, last, gap));
    }

    private void changeOne(int kind) {
        switch (kind) {
            case 0, 1 -> setClimate();
            case 2, 3 -> separate();
            case 4 -> {
                int exhibition = exhibition();
                same("cancel", () -> fast.cancel(exhibition), () -> slow.cancel(exhibition));
            }
            case 5, 6 -> {
                int exhibition = exhibition();
                same("request", () -> fast.request(exhibition), () -> slow.request(exhibition));
            }
            default -> include(exhibition(), work());
        }
    }

    private void setClimate() {
        int room = room();
        int humidity = humidity();
        int light = light();
        same("setClimate", () -> fast.setClimate(room, humidity, light),
                () -> slow.setClimate(room, humidity, light));
    }

    private void separate() {
        int work = work();
        int other = work();
        char by = "rrwwwwwn".charAt(number(0, 7));
        same("separate", () -> fast.separate(work, other, by),
                () -> slow.separate(work, other, by));
    }

    private void askOne(int kind) {
        int exhibition = exhibition();
        int place = index(slow.isThere(exhibition) ? slow.worksOf(exhibition) : 0);
        int lender = index(slow.lenders());
        switch (kind) {
            case 0, 1 -> same("wallFor", () -> fast.wallFor(exhibition, place),
                    () -> slow.wallFor(exhibition, place));
            case 2, 3 -> same("wallForBySearch", () -> fast.wallForBySearch(exhibition, place),
                    () -> slow.wallFor(exhibition, place));
            case 4 -> same("trips", () -> fast.trips(exhibition, lender),
                    () -> slow.trips(exhibition, lender));
            case 5 -> same("tripsByTrying", () -> fast.tripsByTrying(exhibition, lender),
                    () -> slow.trips(exhibition, lender));
            case 6 -> same("canTake", () -> fast.canTake(exhibition, place),
                    () -> slow.canTake(exhibition, place));
            case 7, 8 -> same("wallOf", () -> fast.wallOf(exhibition, place),
                    () -> slow.wallOf(exhibition, place));
            case 9 -> same("workOf", () -> fast.workOf(exhibition, place),
                    () -> slow.workOf(exhibition, place));
            case 10 -> same("stateOf", () -> fast.stateOf(exhibition),
                    () -> slow.stateOf(exhibition));
            case 11 -> same("worksOf", () -> fast.worksOf(exhibition),
                    () -> slow.worksOf(exhibition));
            case 12 -> askOfWalls();
            case 13 -> askOfWorks();
            default -> askForTotals();
        }
    }

    private void askOfWalls() {
        int wall = index(2 * slow.rooms());
        int day = number(0, 9) == 0 ? number(-1, 100) : number(0, 99);
        same("taken", () -> fast.taken(wall, day), () -> slow.taken(wall, day));
        same("hanging", () -> fast.hanging(wall, day), () -> slow.hanging(wall, day));
        same("share", () -> fast.share(wall, day), () -> slow.share(wall, day));
    }

    private void askOfWorks() {
        int work = work();
        int other = work();
        int room = room();
        int day = number(-10, 109);
        same("awayFor", () -> fast.awayFor(work, day), () -> slow.awayFor(work, day));
        same("separation", () -> fast.separation(work, other),
                () -> slow.separation(work, other));
        same("canHang", () -> fast.canHang(work, room), () -> slow.canHang(work, room));
    }

    private void askForTotals() {
        same("rooms", fast::rooms, slow::rooms);
        same("works", fast::works, slow::works);
        same("planned", fast::planned, slow::planned);
        same("insured", fast::insured, slow::insured);
        same("meanWorks", fast::meanWorks, slow::meanWorks);
        same("isSafe", fast::isSafe, () -> true);
    }

    private void same(String call, Supplier<Object> answer, Supplier<Object> due) {
        calls++;
        if (calls <= MOST_CALLS) {
            checks.due("run " + run + " call " + calls + " " + call, outcome(answer), outcome(due));
        }
    }

    private static String outcome(Supplier<Object> call) {
        try {
            return call.get().toString();
        } catch (RuntimeException e) {
            return Checks.name(e);
        }
    }
}
