import java.util.NoSuchElementException;
import java.util.function.Supplier;

/** Promises 1 to 3, 7 and 10: a new object, rooms and their climates. */
public final class RoomsTest {
    private static final Class<?> RANGE = IllegalArgumentException.class;
    private static final Class<?> INDEX = IndexOutOfBoundsException.class;
    private static final Class<?> STATE = IllegalStateException.class;

    public static void main(String[] args) {
        Checks checks = new Checks();
        newObject(checks);
        addRoom(checks);
        addRoomTakesNumbersInRange(checks);
        addRoomTakesFourRooms(checks);
        addRoomUsesTheExtremes(checks);
        addRoomNumbersTheWalls(checks);
        addRoomPlansThoseThatWait(checks);
        addRoomLooksInTheOrderOfNumbers(checks);
        addRoomPlansJustWhatFits(checks);
        setClimate(checks);
        setClimateTakesNumbersInRange(checks);
        setClimateTakesRoomsThatAreThere(checks);
        setClimateUsesTheExtremes(checks);
        setClimateLooksAtAllDays(checks);
        setClimateLooksAtEachWork(checks);
        setClimateLeavesOtherRoomsAlone(checks);
        setClimateTakesDownNoneOrAll(checks);
        setClimatePlansAnewOnOtherWalls(checks);
        setClimateFreesRoomForLowerNumbers(checks);
        setClimateWithoutAChange(checks);
        rooms(checks);
        canHang(checks);
        canHangTakesWhatIsThere(checks);
        checks.end();
    }

    /** "Creates a planner without rooms, lenders, works and exhibitions." */
    private static void newObject(Checks checks) {
        LoggiaPlanner x = Museums.empty();
        checks.due("1 rooms", x.rooms(), 0);
        checks.due("1 works", x.works(), 0);
        checks.due("1 planned", x.planned(), 0);
        checks.due("1 insured", x.insured(), 0L);
        checks.due("1 isSafe", x.isSafe(), true);
        checks.refused("1 no room", INDEX, Museums::empty, y -> y.setClimate(0, 0, 0));
        checks.refused("1 no lender", RANGE, Museums::empty, y -> y.addWork(5, 0, 5, 5, 5, 0));
        checks.refused("1 no work", INDEX, Museums::empty, y -> y.separation(0, 0));
        checks.refused("1 no exhibition", NoSuchElementException.class, Museums::empty,
                y -> y.stateOf(0));
        checks.due("1 first room", x.addRoom(5, 5, 5, 5), 0);
        checks.due("1 first lender", x.addLender(5, 5, 5), 0);
        checks.due("1 first work", x.addWork(5, 5, 5, 5, 5, 0), 0);
        checks.due("1 first exhibition", x.addExhibition(5, 5, 5), 0);
        checks.due("1 another object", Museums.empty().rooms(), 0);
    }

    private static void addRoom(Checks checks) {
        LoggiaPlanner x = Museums.empty();
        checks.due("2 first", x.addRoom(40, 60, 10, 20), 0);
        checks.due("2 second, like the first", x.addRoom(40, 60, 10, 20), 1);
        checks.due("2 third", x.addRoom(50, 0, 1, 400), 2);
        checks.due("2 fourth", x.addRoom(0, 50, 400, 1), 3);
    }

    /** "A humidity and a light, both from 0 to 100, and two walls with a length from 1 to 400." */
    private static void addRoomTakesNumbersInRange(Checks checks) {
        for (Supplier<LoggiaPlanner> start : Museums.emptyAndSmall()) {
            checks.range("2 humidity", RANGE, start, 0, 100, (x, n) -> x.addRoom(n, 50, 100, 100));
            checks.range("2 light", RANGE, start, 0, 100, (x, n) -> x.addRoom(50, n, 100, 100));
            checks.range("2 first wall", RANGE, start, 1, 400, (x, n) -> x.addRoom(50, 50, n, 100));
            checks.range("2 second wall", RANGE, start, 1, 400, (x, n) -> x.addRoom(50, 50, 100, n));
        }
    }

    /** "At most 4 rooms exist, numbered from 0." "Throws ... if there are 4 rooms" */
    private static void addRoomTakesFourRooms(Checks checks) {
        for (int i = 0; i < 4; i++) {
            checks.due("2 room " + i, Museums.counting(i, 0, 0, 0).addRoom(0, 0, 1, 1), i);
            checks.due("2 room " + i + " beside all others",
                    Museums.counting(i, 4, 12, 8).addRoom(0, 0, 1, 1), i);
        }
        checks.refused("2 fifth room", STATE, () -> Museums.counting(4, 0, 0, 0),
                x -> x.addRoom(50, 50, 100, 100));
        checks.refused("2 fifth room", STATE, Museums::full, x -> x.addRoom(0, 0, 5, 5));
        checks.refused("2 fifth room", STATE, Museums::full, x -> x.addRoom(100, 100, 5, 5));
    }

    private static void addRoomUsesTheExtremes(Checks checks) {
        LoggiaPlanner x = Museums.empty();
        x.addWork(1, 0, 0, 0, 1, -1);
        x.addWork(1, 100, 100, 100, 1, -1);
        x.addWork(1, 0, 100, 99, 1, -1);
        x.addWork(200, 100, 100, 100, 1, -1);
        x.addWork(200, 100, 100, 100, 1, -1);
        x.addRoom(0, 0, 1, 1);
        x.addRoom(100, 100, 400, 400);
        checks.due("2 humidity 0, light 0", x.canHang(0, 0), true);
        checks.due("2 humidity 0", x.canHang(1, 0), false);
        checks.due("2 humidity 100", x.canHang(0, 1), false);
        checks.due("2 humidity 100, light 100", x.canHang(1, 1), true);
        checks.due("2 light 100", x.canHang(2, 1), false);
        Museums.addShow(x, 0, 0, 0, 0);
        checks.due("2 a wall of 1 is full", x.request(0), 'p');
        checks.due("2 its share", x.share(0, 0), 1.0f);
        Museums.addShow(x, 0, 0, 0, 3, 4);
        checks.due("2 a wall of 400 is full", x.request(1), 'p');
        checks.due("2 its share", x.share(2, 0), 1.0f);
    }

    /** "The room r has the walls 2 r and 2 r + 1." Each wall takes a work of its own length. */
    private static void addRoomNumbersTheWalls(Checks checks) {
        LoggiaPlanner x = Museums.empty();
        for (int room = 0; room < 4; room++) {
            x.addRoom(10 * room, 50, 10 * room + 5, 10 * room + 9);
        }
        checks.due("2 a fifth one has no walls", Checks.thrown(x, y -> y.addRoom(30, 50, 400, 400)),
                STATE.getName());
        for (int room = 0; room < 4; room++) {
            x.addWork(10 * room + 5, 10 * room, 10 * room, 50, 1, -1);
            x.addWork(10 * room + 9, 10 * room, 10 * room, 50, 1, -1);
            Museums.addShow(x, 0, 0, 0, 2 * room + 1, 2 * room);
            checks.due("2 both walls of room " + room, x.request(room), 'p');
            checks.due("2 its first wall", x.wallOf(room, 1), 2 * room);
            checks.due("2 its second wall", x.wallOf(room, 0), 2 * room + 1);
            checks.due("2 taken on its first wall", x.taken(2 * room, 0), 10 * room + 5);
            checks.due("2 taken on its second wall", x.taken(2 * room + 1, 0), 10 * room + 9);
            checks.due("2 its first wall is full", x.share(2 * room, 0), 1.0f);
            checks.due("2 its second wall is full", x.share(2 * room + 1, 0), 1.0f);
        }
    }

    /** "Adds a room; those exhibitions that wait are looked at." */
    private static void addRoomPlansThoseThatWait(Checks checks) {
        LoggiaPlanner x = Museums.withWidths(10, 10, 30, 25);
        Museums.addShow(x, 0, 5, 0, 0);
        Museums.addShow(x, 5, 9, 0, 1);
        Museums.addShow(x, 5, 9, 0, 1);
        checks.due("2 waits", x.request(2), 'w');
        checks.due("2 waits", x.request(0), 'w');
        checks.due("2 adds", x.addRoom(50, 50, 30, 29), 1);
        checks.due("2 planned", x.stateOf(0), 'p');
        checks.due("2 planned", x.wallOf(0, 0), 2);
        checks.due("2 planned, too", x.wallOf(2, 0), 3);
        checks.due("2 drafts stay", x.stateOf(1), 'd');
        checks.due("2 times", x.planned(), 2);
    }

    /** "Those that wait are looked at in the order of their numbers", not of their requests. */
    private static void addRoomLooksInTheOrderOfNumbers(Checks checks) {
        LoggiaPlanner x = Museums.empty();
        for (int i = 0; i < 8; i++) {
            x.addWork(10, 0, 100, 100, 1, -1);
            Museums.addShow(x, 5, 9, 0, i);
        }
        for (int i = 7; i >= 0; i--) {
            checks.due("2 waits without a room", x.request(i), 'w');
        }
        checks.due("2 first room", x.addRoom(50, 50, 10, 9), 0);
        checks.due("2 one only", x.planned(), 1);
        checks.due("2 the lowest number", x.stateOf(0), 'p');
        checks.due("2 second room", x.addRoom(50, 50, 10, 20), 1);
        checks.due("2 three more", x.planned(), 4);
        checks.due("2 the lowest numbers", x.wallOf(1, 0) * 100 + x.wallOf(2, 0) * 10
                + x.wallOf(3, 0), 233);
        checks.due("2 third room", x.addRoom(50, 50, 400, 400), 2);
        checks.due("2 all", x.planned(), 8);
        checks.due("2 the highest number", x.wallOf(7, 0), 4);
        checks.due("2 none waits", x.addRoom(50, 50, 400, 400), 3);
        checks.due("2 none is planned again", x.planned(), 8);
    }

    private static void addRoomPlansJustWhatFits(Checks checks) {
        for (int length = 42; length <= 44; length++) {
            LoggiaPlanner x = Museums.empty();
            x.addWork(40, 0, 100, 100, 1, -1);
            Museums.addShow(x, 0, 99, 3, 0);
            x.request(0);
            x.addRoom(50, 50, 1, length);
            checks.due("2 a width of 40 and a gap of 3 on " + length, x.stateOf(0),
                    length < 43 ? 'w' : 'p');
        }
    }

    private static void setClimate(Checks checks) {
        LoggiaPlanner x = new LoggiaPlanner();
        x.addRoom(50, 50, 100, 100);
        x.addWork(10, 45, 55, 60, 5, -1);
        Museums.addShow(x, 0, 9, 0, 0);
        x.request(0);
        checks.due("3 at the least humidity", x.setClimate(0, 45, 60), 0);
        checks.due("3 at the greatest humidity", x.setClimate(0, 55, 0), 0);
        checks.due("3 still planned", x.planned(), 1);
        checks.due("3 too dry", x.setClimate(0, 44, 50), 1);
        checks.due("3 waits", x.stateOf(0), 'w');
        checks.due("3 does not hang", x.hanging(0, 5), 0);
        checks.due("3 waits already", x.setClimate(0, 56, 50), 0);
        checks.due("3 planned anew", x.setClimate(0, 50, 60), 0);
        checks.due("3 planned", x.stateOf(0), 'p');
        checks.due("3 times", x.planned(), 2);
        checks.due("3 too light", x.setClimate(0, 50, 61), 1);
        checks.due("3 waits", x.stateOf(0), 'w');
        checks.due("3 just not too light", x.setClimate(0, 50, 60), 0);
        checks.due("3 too humid", x.setClimate(0, 56, 60), 1);
        checks.due("3 times", x.planned(), 3);
    }

    /** "Throws IllegalArgumentException if a number is out of range" */
    private static void setClimateTakesNumbersInRange(Checks checks) {
        for (int i = 0; i < 2; i++) {
            int room = i;
            checks.range("3 humidity", RANGE, Museums::small, 0, 100,
                    (x, n) -> x.setClimate(room, n, 0));
            checks.range("3 humidity", RANGE, Museums::small, 0, 100,
                    (x, n) -> x.setClimate(room, n, 100));
            checks.range("3 light", RANGE, Museums::small, 0, 100,
                    (x, n) -> x.setClimate(room, 0, n));
            checks.range("3 light", RANGE, Museums::small, 0, 100,
                    (x, n) -> x.setClimate(room, 50, n));
        }
        checks.range("3 humidity", RANGE, Museums::full, 0, 100, (x, n) -> x.setClimate(3, n, 50));
        checks.range("3 light", RANGE, Museums::full, 0, 100, (x, n) -> x.setClimate(3, 50, n));
    }

    /** "Throws IndexOutOfBoundsException if there is no such room" */
    private static void setClimateTakesRoomsThatAreThere(Checks checks) {
        for (int i = 0; i <= 4; i++) {
            int count = i;
            checks.range("3 room of " + count, INDEX, () -> Museums.counting(count, 1, 8, 8), 0,
                    count - 1, (x, n) -> x.setClimate(n, 60, 60));
        }
        checks.range("3 room", INDEX, Museums::small, 0, 1, (x, n) -> x.setClimate(n, 0, 0));
    }

    private static void setClimateUsesTheExtremes(Checks checks) {
        LoggiaPlanner x = Museums.counting(1, 0, 0, 0);
        x.addWork(1, 0, 0, 0, 1, -1);
        x.addWork(1, 100, 100, 100, 1, -1);
        x.addWork(1, 100, 100, 99, 1, -1);
        checks.due("3 least numbers", x.setClimate(0, 0, 0), 0);
        checks.due("3 humidity 0, light 0", x.canHang(0, 0), true);
        checks.due("3 humidity 0", x.canHang(1, 0), false);
        checks.due("3 greatest numbers", x.setClimate(0, 100, 100), 0);
        checks.due("3 humidity 100", x.canHang(0, 0), false);
        checks.due("3 humidity 100, light 100", x.canHang(1, 0), true);
        checks.due("3 light 100", x.canHang(2, 0), false);
    }

    /** "... and cannot any more, whatever its days are, is taken down and waits" */
    private static void setClimateLooksAtAllDays(Checks checks) {
        LoggiaPlanner x = new LoggiaPlanner();
        x.addRoom(50, 50, 100, 100);
        x.addWork(10, 45, 55, 60, 5, -1);
        x.addWork(10, 0, 100, 60, 5, -1);
        Museums.addShow(x, 0, 0, 0, 0);
        Museums.addShow(x, 1, 98, 0, 1);
        Museums.addShow(x, 99, 99, 0, 1, 0);
        Museums.addShow(x, 50, 50, 0, 0);
        for (int i = 0; i < 3; i++) {
            checks.due("3 planned", x.request(i), 'p');
        }
        checks.due("3 the first and the last day", x.setClimate(0, 60, 50), 2);
        checks.due("3 first", x.stateOf(0), 'w');
        checks.due("3 between", x.stateOf(1), 'p');
        checks.due("3 last", x.stateOf(2), 'w');
        checks.due("3 draft", x.stateOf(3), 'd');
    }

    /** "Each exhibition with a work that hangs there and cannot any more": one of five is enough. */
    private static void setClimateLooksAtEachWork(Checks checks) {
        for (int weak = 0; weak < 5; weak++) {
            LoggiaPlanner x = new LoggiaPlanner();
            x.addRoom(50, 50, 30, 20);
            for (int i = 0; i < 5; i++) {
                x.addWork(10, 0, i == weak ? 50 : 100, 60, 5, -1);
            }
            Museums.addShow(x, 0, 9, 0, 0, 1, 2, 3, 4);
            x.request(0);
            checks.due("3 stays", x.setClimate(0, 50, 60), 0);
            checks.due("3 only work " + weak + " cannot", x.setClimate(0, 51, 60), 1);
            checks.due("3 none of the five hangs", x.hanging(0, 5) + x.hanging(1, 5), 0);
            checks.due("3 waits", x.stateOf(0), 'w');
        }
    }

    /** The works of two exhibitions stand neither climate well, but hang in one room each. */
    private static void setClimateLeavesOtherRoomsAlone(Checks checks) {
        for (int i = 0; i < 4; i++) {
            LoggiaPlanner x = new LoggiaPlanner();
            for (int room = 0; room < 4; room++) {
                x.addRoom(10 * room, 50, 10, 10);
                x.addWork(10, 10 * room, 10 * room, 60, 5, -1);
                Museums.addShow(x, 0, 9, 0, room);
                x.request(room);
            }
            checks.due("3 those of room " + i, x.setClimate(i, 99, 50), 1);
            for (int show = 0; show < 4; show++) {
                checks.due("3 exhibition " + show, x.stateOf(show), show == i ? 'w' : 'p');
            }
        }
    }

    /** "Returns the number of exhibitions that are taken down." From 0 to all 8. */
    private static void setClimateTakesDownNoneOrAll(Checks checks) {
        for (int count = 0; count <= 8; count++) {
            LoggiaPlanner x = Museums.counting(1, 0, 0, 0);
            x.addWork(10, 40, 50, 50, 5, -1);
            x.addWork(10, 40, 60, 50, 5, -1);
            for (int i = 0; i < 8; i++) {
                Museums.addShow(x, 12 * i, 12 * i + 11, 5, i < count ? 0 : 1);
                x.request(i);
            }
            checks.due("3 none is taken down", x.setClimate(0, 50, 50), 0);
            checks.due("3 taken down", x.setClimate(0, 51, 50), count);
            checks.due("3 planned anew", x.setClimate(0, 50, 50), 0);
            checks.due("3 times", x.planned(), 8 + count);
            x.cancel(0);
            checks.due("3 cancelled ones do not count", x.setClimate(0, 51, 50),
                    Math.max(0, count - 1));
        }
    }

    /** "Then, those that wait are looked at": after the taking down, also those taken down. */
    private static void setClimatePlansAnewOnOtherWalls(Checks checks) {
        LoggiaPlanner x = new LoggiaPlanner();
        x.addRoom(50, 50, 100, 100);
        x.addRoom(60, 50, 100, 100);
        x.addWork(10, 40, 55, 60, 5, -1);
        x.addWork(10, 40, 60, 60, 5, -1);
        Museums.addShow(x, 3, 4, 0, 1);
        Museums.addShow(x, 3, 4, 0, 0);
        x.request(0);
        x.request(1);
        checks.due("3 first on wall 0", x.wallOf(0, 0), 0);
        checks.due("3 both are taken down", x.setClimate(0, 61, 50), 2);
        checks.due("3 hangs in the other room", x.wallOf(0, 0), 2);
        checks.due("3 cannot hang", x.stateOf(1), 'w');
        checks.due("3 the other room only", x.setClimate(1, 60, 50), 0);
        checks.due("3 plans of others stay", x.setClimate(0, 50, 50), 0);
        checks.due("3 stays in the other room", x.wallOf(0, 0), 2);
        checks.due("3 hangs again", x.wallOf(1, 0), 0);
        checks.due("3 times", x.planned(), 4);
    }

    private static void setClimateFreesRoomForLowerNumbers(Checks checks) {
        LoggiaPlanner x = new LoggiaPlanner();
        x.addRoom(50, 50, 100, 1);
        x.addWork(90, 0, 100, 60, 5, -1);
        x.addWork(90, 50, 50, 60, 5, -1);
        Museums.addShow(x, 3, 4, 0, 0);
        Museums.addShow(x, 3, 4, 0, 1);
        x.request(1);
        checks.due("3 no room", x.request(0), 'w');
        checks.due("3 taken down", x.setClimate(0, 51, 50), 1);
        checks.due("3 has room now", x.stateOf(0), 'p');
        checks.due("3 nobody is taken down", x.setClimate(0, 50, 50), 0);
        checks.due("3 no room any more", x.stateOf(1), 'w');
    }

    private static void setClimateWithoutAChange(Checks checks) {
        LoggiaPlanner x = Museums.small();
        checks.due("3 the same climate", x.setClimate(0, 50, 50), 0);
        checks.due("3 the same climate", x.setClimate(1, 45, 20), 0);
        checks.due("3 still planned", x.stateOf(Museums.PLANNED), 'p');
        checks.due("3 still waits", x.stateOf(Museums.WAITING), 'w');
        checks.due("3 a draft still", x.stateOf(Museums.DRAFT), 'd');
        checks.due("3 cancelled still", x.stateOf(Museums.CANCELLED), 'c');
        checks.due("3 times", x.planned(), 1);
    }

    /** "Returns the number of rooms." From 0 to 4; a refused one does not count. */
    private static void rooms(Checks checks) {
        for (int i = 0; i <= 4; i++) {
            checks.due("7 rooms", Museums.counting(i, 4, 12, 8).rooms(), i);
        }
        LoggiaPlanner x = Museums.counting(4, 0, 0, 0);
        Checks.thrown(x, y -> y.addRoom(50, 50, 50, 50));
        checks.due("7 no fifth room", x.rooms(), 4);
    }

    /** "... if the humidity is in its range, and the light is not greater than the light ..." */
    private static void canHang(Checks checks) {
        LoggiaPlanner x = new LoggiaPlanner();
        x.addRoom(50, 50, 100, 100);
        x.addRoom(51, 49, 1, 1);
        x.addWork(200, 50, 50, 50, 5, -1);
        x.addWork(200, 0, 49, 50, 5, -1);
        x.addWork(200, 51, 100, 50, 5, -1);
        x.addWork(200, 0, 100, 49, 5, -1);
        checks.due("10 just", x.canHang(0, 0), true);
        checks.due("10 too humid", x.canHang(0, 1), false);
        checks.due("10 too humid", x.canHang(1, 0), false);
        checks.due("10 too dry", x.canHang(2, 0), false);
        checks.due("10 just, on too short a wall", x.canHang(2, 1), true);
        checks.due("10 too light", x.canHang(3, 0), false);
        checks.due("10 just", x.canHang(3, 1), true);
        x.setClimate(0, 51, 50);
        checks.due("10 after a change", x.canHang(0, 0), false);
        checks.due("10 after a change", x.canHang(2, 0), true);
    }

    /** "Throws IndexOutOfBoundsException if there is no such work or no such room" */
    private static void canHangTakesWhatIsThere(Checks checks) {
        for (int i : new int[] {0, 1, 11, 12}) {
            int count = i;
            checks.range("10 work of " + count, INDEX, () -> Museums.counting(4, 0, count, 8), 0,
                    count - 1, (x, n) -> x.canHang(n, 3));
        }
        for (int i = 0; i <= 4; i++) {
            int count = i;
            checks.range("10 room of " + count, INDEX, () -> Museums.counting(count, 0, 12, 8), 0,
                    count - 1, (x, n) -> x.canHang(11, n));
        }
        checks.refused("10 neither", INDEX, Museums::empty, x -> x.canHang(0, 0));
        checks.refused("10 neither", INDEX, Museums::full, x -> x.canHang(12, 4));
    }
}
