import java.util.ArrayList;
import java.util.NoSuchElementException;

/** Plans the exhibitions of a museum: which work hangs on which wall, and when. */
public final class LoggiaPlanner {
    private static final int MOST_ROOMS = 4;
    private static final int WALLS_OF_ROOM = 2;
    private static final int MOST_WALLS = MOST_ROOMS * WALLS_OF_ROOM;
    private static final int LONGEST_WALL = 400;
    private static final int MOST_CLIMATE = 100;

    private static final int MOST_LENDERS = 4;
    private static final int MOST_LIMIT = 9999;
    private static final int MOST_TRAVEL = 9;
    private static final int LONGEST_LOAN = 100;
    private static final int MUSEUM = -1;

    private static final int MOST_WORKS = 12;
    private static final int MOST_WIDTH = 200;
    private static final int MOST_VALUE = 999;

    private static final int MOST_EXHIBITIONS = 8;
    private static final int MOST_SHOWN = 5;
    private static final int LAST_DAY = 99;
    private static final int MOST_GAP = 50;
    private static final int NONE = -1;

    private static final char BY_ROOMS = 'r';
    private static final char BY_WALLS = 'w';
    private static final char NOT_SEPARATED = 'n';

    private static final char DRAFT = 'd';
    private static final char PLANNED = 'p';
    private static final char WAITS = 'w';
    private static final char CANCELLED = 'c';

    private final House house;
    private final ArrayList<Lender> lenderList;
    private final ArrayList<Work> workList;
    private final Separations separations;
    private final Calendar calendar;
    private final Board board;
    private final Loads loads;
    private int timesPlanned;

    public LoggiaPlanner() {
        house = new House();
        lenderList = new ArrayList<>();
        workList = new ArrayList<>();
        separations = new Separations();
        calendar = new Calendar();
        board = new Board();
        loads = new Loads();
    }

    // Rooms, lenders, works.

    public int addRoom(int humidity, int light, int first, int second)
            throws IllegalArgumentException, IllegalStateException {
        if (!isClimate(humidity, light)
                || !isWithin(first, 1, LONGEST_WALL)
                || !isWithin(second, 1, LONGEST_WALL)) {
            throw new IllegalArgumentException("a number is out of range");
        }
        if (house.rooms.size() >= MOST_ROOMS) {
            throw new IllegalStateException("there are 4 rooms");
        }
        house.rooms.add(new Room(humidity, light, first, second));
        planThoseThatWait();
        return house.rooms.size() - 1;
    }

    public int setClimate(int room, int humidity, int light)
            throws IndexOutOfBoundsException, IllegalArgumentException {
        Room changed = roomAt(room);
        if (!isClimate(humidity, light)) {
            throw new IllegalArgumentException("a number is out of range");
        }
        changed.humidity = humidity;
        changed.light = light;
        int down = calendar.takeDownMisplaced(house);
        planThoseThatWait();
        return down;
    }

    public int addLender(int limit, int days, int longest)
            throws IllegalArgumentException, IllegalStateException {
        if (!isWithin(limit, 1, MOST_LIMIT)
                || !isWithin(days, 0, MOST_TRAVEL)
                || !isWithin(longest, 1, LONGEST_LOAN)) {
            throw new IllegalArgumentException("a number is out of range");
        }
        if (lenderList.size() >= MOST_LENDERS) {
            throw new IllegalStateException("there are 4 lenders");
        }
        Lender lender = new Lender(lenderList.size(), limit, days, longest);
        lenderList.add(lender);
        return lender.number;
    }

    public int addWork(int width, int low, int high, int light, int value, int lender)
            throws IllegalArgumentException, IllegalStateException {
        if (!isWithin(width, 1, MOST_WIDTH)
                || !isWithin(low, 0, MOST_CLIMATE)
                || !isWithin(high, low, MOST_CLIMATE)
                || !isWithin(light, 0, MOST_CLIMATE)
                || !isWithin(value, 1, MOST_VALUE)) {
            throw new IllegalArgumentException("a number is out of range");
        }
        if (!isWithin(lender, MUSEUM, lenderList.size() - 1)) {
            throw new IllegalArgumentException("there is no such lender");
        }
        if (workList.size() >= MOST_WORKS) {
            throw new IllegalStateException("there are 12 works");
        }
        Lender owner = isWithin(lender, 0, lenderList.size() - 1) ? lenderList.get(lender) : null;
        Work work = new Work(workList.size(), width, low, high, light, value, owner);
        workList.add(work);
        return work.number;
    }

    public int separate(int work, int other, char kind)
            throws IndexOutOfBoundsException, IllegalArgumentException, IllegalStateException {
        Work one = workAt(work);
        Work two = workAt(other);
        if (work == other) {
            throw new IllegalArgumentException("both works are the same");
        }
        if (kind != BY_ROOMS && kind != BY_WALLS) {
            throw new IllegalArgumentException("there is no such kind");
        }
        if (calendar.hangsAgainst(one, two, kind)) {
            throw new IllegalStateException("the works hang so that this would be broken");
        }
        separations.keep(work, other, kind);
        planThoseThatWait();
        return separations.pairs();
    }

    public int rooms() {
        return house.rooms.size();
    }

    public int works() {
        return workList.size();
    }

    public char separation(int work, int other) throws IndexOutOfBoundsException {
        Work one = workAt(work);
        Work two = workAt(other);
        return separations.kindOf(one.number, two.number);
    }

    public boolean canHang(int work, int room) throws IndexOutOfBoundsException {
        return workAt(work).stands(roomAt(room));
    }

    // Exhibitions.

    public int addExhibition(int first, int last, int gap)
            throws IllegalArgumentException, IllegalStateException {
        if (!isWithin(first, 0, LAST_DAY)
                || !isWithin(last, first, LAST_DAY)
                || !isWithin(gap, 0, MOST_GAP)) {
            throw new IllegalArgumentException("a number is out of range");
        }
        if (calendar.exhibitions.size() >= MOST_EXHIBITIONS) {
            throw new IllegalStateException("there are 8 exhibitions");
        }
        Exhibition show = new Exhibition(calendar.exhibitions.size(), first, last, gap);
        calendar.exhibitions.add(show);
        return show.number;
    }

    public int include(int exhibition, int work)
            throws NoSuchElementException, IndexOutOfBoundsException, IllegalStateException {
        Exhibition show = exhibitionAt(exhibition);
        Work added = workAt(work);
        if (show.state != DRAFT) {
            throw new IllegalStateException("the exhibition is not a draft");
        }
        if (show.shown.size() >= MOST_SHOWN) {
            throw new IllegalStateException("the exhibition has 5 works");
        }
        if (show.indexOf(added) != NONE) {
            throw new IllegalStateException("the exhibition has this work");
        }
        show.shown.add(added);
        return show.shown.size();
    }

    public char request(int exhibition)
            throws NoSuchElementException, IllegalStateException, UnsupportedOperationException {
        Exhibition show = exhibitionAt(exhibition);
        if (show.state != DRAFT) {
            throw new IllegalStateException("the exhibition is not a draft");
        }
        if (show.shown.isEmpty()) {
            throw new UnsupportedOperationException("the exhibition has no works");
        }
        show.state = WAITS;
        if (findsWorkByWork(show)) {
            hangAsFound(show);
        }
        return show.state;
    }

    public int cancel(int exhibition) throws NoSuchElementException, IllegalStateException {
        Exhibition show = exhibitionAt(exhibition);
        if (show.state == CANCELLED) {
            throw new IllegalStateException("the exhibition was cancelled before");
        }
        show.state = CANCELLED;
        return planThoseThatWait();
    }

    public char stateOf(int exhibition) throws NoSuchElementException {
        return exhibitionAt(exhibition).state;
    }

    public int worksOf(int exhibition) throws NoSuchElementException {
        return exhibitionAt(exhibition).shown.size();
    }

    public int workOf(int exhibition, int index)
            throws NoSuchElementException, IndexOutOfBoundsException {
        return shownAt(exhibitionAt(exhibition), index).number;
    }

    public int wallOf(int exhibition, int index)
            throws NoSuchElementException, IndexOutOfBoundsException, IllegalStateException {
        Exhibition show = exhibitionAt(exhibition);
        shownAt(show, index);
        if (show.state != PLANNED) {
            throw new IllegalStateException("the exhibition is not planned");
        }
        return numberAt(show.walls, index);
    }

    public boolean canTake(int exhibition, int index)
            throws NoSuchElementException, IndexOutOfBoundsException, IllegalStateException {
        Exhibition show = exhibitionAt(exhibition);
        Work work = shownAt(show, index);
        if (show.state == CANCELLED) {
            throw new IllegalStateException("the exhibition was cancelled");
        }
        return calendar.allowsTaking(show, work);
    }

    public int wallFor(int exhibition, int index)
            throws NoSuchElementException, IndexOutOfBoundsException, IllegalStateException,
            UnsupportedOperationException {
        Exhibition show = openExhibitionAt(exhibition, index);
        if (!findsWorkByWork(show)) {
            throw new UnsupportedOperationException("no plan is possible");
        }
        return numberAt(board.chosen, index);
    }

    public int wallForBySearch(int exhibition, int index)
            throws NoSuchElementException, IndexOutOfBoundsException, IllegalStateException,
            UnsupportedOperationException {
        Exhibition show = openExhibitionAt(exhibition, index);
        if (!findsBySearch(show)) {
            throw new UnsupportedOperationException("no plan is possible");
        }
        return numberAt(board.chosen, index);
    }

    public int trips(int exhibition, int lender)
            throws NoSuchElementException, IndexOutOfBoundsException,
            UnsupportedOperationException {
        collectLoads(exhibition, lender);
        return loads.leastByGroups();
    }

    public int tripsByTrying(int exhibition, int lender)
            throws NoSuchElementException, IndexOutOfBoundsException,
            UnsupportedOperationException {
        collectLoads(exhibition, lender);
        return loads.leastByTrying();
    }

    // Walls and totals.

    public int taken(int wall, int day)
            throws IndexOutOfBoundsException, IllegalArgumentException {
        refuseUnknown(wall, day);
        return calendar.takenOn(wall, day);
    }

    public int hanging(int wall, int day)
            throws IndexOutOfBoundsException, IllegalArgumentException {
        refuseUnknown(wall, day);
        return calendar.worksOn(wall, day);
    }

    public int awayFor(int work, int day)
            throws IndexOutOfBoundsException, IllegalArgumentException, NoSuchElementException {
        Work sought = workAt(work);
        if (!isWithin(day, -MOST_TRAVEL, LAST_DAY + MOST_TRAVEL)) {
            throw new IllegalArgumentException("the day is out of range");
        }
        int exhibition = calendar.exhibitionWith(sought, day);
        if (exhibition == NONE) {
            throw new NoSuchElementException("the work is not away");
        }
        return exhibition;
    }

    public int planned() {
        return timesPlanned;
    }

    public long insured() {
        return calendar.insuredSum();
    }

    public double meanWorks() throws ArithmeticException {
        int exhibitions = calendar.plannedExhibitions();
        if (exhibitions == 0) {
            throw new ArithmeticException("no exhibition is planned");
        }
        return (double) calendar.plannedWorks() / (double) exhibitions;
    }

    public float share(int wall, int day)
            throws IndexOutOfBoundsException, IllegalArgumentException {
        refuseUnknown(wall, day);
        int length = house.lengthOf(wall);
        return length > 0 ? (float) calendar.takenOn(wall, day) / (float) length : 0.0f;
    }

    public boolean isSafe() {
        return calendar.allHangWell(house, separations)
                && calendar.fitsOn(house)
                && calendar.takesWell()
                && allWaitRightly();
    }

    // What the methods above share.

    private Room roomAt(int room) {
        if (!isWithin(room, 0, house.rooms.size() - 1)) {
            throw new IndexOutOfBoundsException("there is no such room");
        }
        return house.rooms.get(room);
    }

    private Work workAt(int work) {
        if (!isWithin(work, 0, workList.size() - 1)) {
            throw new IndexOutOfBoundsException("there is no such work");
        }
        return workList.get(work);
    }

    private Exhibition exhibitionAt(int exhibition) {
        if (!isWithin(exhibition, 0, calendar.exhibitions.size() - 1)) {
            throw new NoSuchElementException("there is no such exhibition");
        }
        return calendar.exhibitions.get(exhibition);
    }

    private Work shownAt(Exhibition show, int index) {
        if (!isWithin(index, 0, show.shown.size() - 1)) {
            throw new IndexOutOfBoundsException("the exhibition has no such work");
        }
        return show.shown.get(index);
    }

    private Exhibition openExhibitionAt(int exhibition, int index) {
        Exhibition show = exhibitionAt(exhibition);
        shownAt(show, index);
        if (show.state == PLANNED || show.state == CANCELLED) {
            throw new IllegalStateException("the exhibition is planned or was cancelled");
        }
        return show;
    }

    private void refuseUnknown(int wall, int day) {
        if (!isWithin(wall, 0, house.walls() - 1)) {
            throw new IndexOutOfBoundsException("there is no such wall");
        }
        if (!isWithin(day, 0, LAST_DAY)) {
            throw new IllegalArgumentException("there is no such day");
        }
    }

    private void collectLoads(int exhibition, int lender) {
        Exhibition show = exhibitionAt(exhibition);
        if (!isWithin(lender, 0, lenderList.size() - 1)) {
            throw new IndexOutOfBoundsException("there is no such lender");
        }
        if (!loads.collect(show, lenderList.get(lender))) {
            throw new UnsupportedOperationException("a value is greater than the limit");
        }
    }

    /**
     * One look at each is enough: a plan only takes room and works away, so it never makes another
     * one possible.
     */
    private int planThoseThatWait() {
        int count = 0;
        for (int i = 0; i < calendar.exhibitions.size(); i++) {
            Exhibition show = calendar.exhibitions.get(i);
            if (show.state == WAITS && findsWorkByWork(show)) {
                hangAsFound(show);
                count++;
            }
        }
        return count;
    }

    private void hangAsFound(Exhibition show) {
        show.hangAs(board.chosen);
        timesPlanned++;
    }

    private boolean findsWorkByWork(Exhibition show) {
        return board.prepare(show, house, calendar, separations) && board.hangWorkByWork();
    }

    private boolean findsBySearch(Exhibition show) {
        return board.prepare(show, house, calendar, separations) && board.searchAllWalls();
    }

    private boolean allWaitRightly() {
        for (int i = 0; i < calendar.exhibitions.size(); i++) {
            Exhibition show = calendar.exhibitions.get(i);
            if (show.state == WAITS && (findsWorkByWork(show) || findsBySearch(show))) {
                return false;
            }
        }
        return true;
    }

    private static boolean isWithin(int number, int least, int most) {
        return number >= least && number <= most;
    }

    private static boolean isClimate(int humidity, int light) {
        return isWithin(humidity, 0, MOST_CLIMATE) && isWithin(light, 0, MOST_CLIMATE);
    }

    private static boolean isBroken(char kind, int wall, int otherWall) {
        if (kind == BY_ROOMS) {
            return wall / WALLS_OF_ROOM == otherWall / WALLS_OF_ROOM;
        }
        return kind == BY_WALLS && wall == otherWall;
    }

    private static int numberAt(int[] row, int index) {
        return index >= 0 && index < row.length ? row[index] : 0;
    }

    private static void putAt(int[] row, int index, int number) {
        if (index >= 0 && index < row.length) {
            row[index] = number;
        }
    }

    private static final class Room {
        private int humidity;
        private int light;
        private final int first;
        private final int second;

        Room(int humidity, int light, int first, int second) {
            this.humidity = humidity;
            this.light = light;
            this.first = first;
            this.second = second;
        }
    }

    /** The rooms in the order of their numbers, and the walls that they have. */
    private static final class House {
        private final ArrayList<Room> rooms = new ArrayList<>();

        int walls() {
            return rooms.size() * WALLS_OF_ROOM;
        }

        int lengthOf(int wall) {
            if (!isWithin(wall, 0, walls() - 1)) {
                return 0;
            }
            Room room = rooms.get(wall / WALLS_OF_ROOM);
            return wall % WALLS_OF_ROOM == 0 ? room.first : room.second;
        }

        boolean suits(Work work, int wall) {
            return isWithin(wall, 0, walls() - 1)
                    && work.stands(rooms.get(wall / WALLS_OF_ROOM));
        }
    }

    private static final class Lender {
        private final int number;
        private final int limit;
        private final int days;
        private final int longest;

        Lender(int number, int limit, int days, int longest) {
            this.number = number;
            this.limit = limit;
            this.days = days;
            this.longest = longest;
        }
    }

    private static final class Work {
        private final int number;
        private final int width;
        private final int low;
        private final int high;
        private final int light;
        private final int value;
        /** Null for a work of the museum. */
        private final Lender lender;

        Work(int number, int width, int low, int high, int light, int value, Lender lender) {
            this.number = number;
            this.width = width;
            this.low = low;
            this.high = high;
            this.light = light;
            this.value = value;
            this.lender = lender;
        }

        boolean stands(Room room) {
            return low <= room.humidity && room.humidity <= high && room.light <= light;
        }

        boolean isFrom(Lender one) {
            return lender != null && lender.number == one.number;
        }

        int travelDays() {
            return lender == null ? 0 : lender.days;
        }

        boolean isLentFor(Exhibition show) {
            return lender == null
                    || value <= lender.limit
                    && show.days() <= lender.longest
                    && show.first >= lender.days;
        }
    }

    /** How pairs of works are separated; a pair stands twice, once from each side. */
    private static final class Separations {
        private final char[] kinds = new char[MOST_WORKS * MOST_WORKS];

        char kindOf(int work, int other) {
            int place = work * MOST_WORKS + other;
            if (place < 0 || place >= kinds.length || kinds[place] == 0) {
                return NOT_SEPARATED;
            }
            return kinds[place];
        }

        void keep(int work, int other, char kind) {
            keepOneSide(work, other, kind);
            keepOneSide(other, work, kind);
        }

        private void keepOneSide(int work, int other, char kind) {
            int place = work * MOST_WORKS + other;
            if (place >= 0 && place < kinds.length) {
                kinds[place] = kind;
            }
        }

        int pairs() {
            int sides = 0;
            for (int i = 0; i < kinds.length; i++) {
                if (kinds[i] != 0) {
                    sides++;
                }
            }
            return sides / 2;
        }
    }

    private static final class Exhibition {
        private final int number;
        private final int first;
        private final int last;
        private final int gap;
        private final ArrayList<Work> shown = new ArrayList<>();
        /** Where the works hang; this counts only while the exhibition is planned. */
        private final int[] walls = new int[MOST_SHOWN];
        private char state = DRAFT;

        Exhibition(int number, int first, int last, int gap) {
            this.number = number;
            this.first = first;
            this.last = last;
            this.gap = gap;
        }

        int days() {
            return last - first + 1;
        }

        int indexOf(Work work) {
            for (int i = 0; i < shown.size(); i++) {
                if (shown.get(i).number == work.number) {
                    return i;
                }
            }
            return NONE;
        }

        boolean hangsOn(int day) {
            return state == PLANNED && first <= day && day <= last;
        }

        boolean hangsDuring(Exhibition other) {
            return state == PLANNED && first <= other.last && other.first <= last;
        }

        boolean isAwayBetween(Work work, int from, int to) {
            int travel = work.travelDays();
            return state == PLANNED
                    && first - travel <= to
                    && from <= last + travel
                    && indexOf(work) != NONE;
        }

        int spaceOn(int wall) {
            int sum = 0;
            for (int i = 0; i < shown.size() && i < walls.length; i++) {
                sum += walls[i] == wall ? shown.get(i).width + gap : 0;
            }
            return sum;
        }

        int countOn(int wall) {
            int count = 0;
            for (int i = 0; i < shown.size() && i < walls.length; i++) {
                count += walls[i] == wall ? 1 : 0;
            }
            return count;
        }

        long insuredSum() {
            long sum = 0;
            for (int i = 0; i < shown.size(); i++) {
                Work work = shown.get(i);
                if (work.lender != null) {
                    sum += (long) work.value * (days() + 2 * work.travelDays());
                }
            }
            return sum;
        }

        void hangAs(int[] plan) {
            for (int i = 0; i < shown.size(); i++) {
                putAt(walls, i, numberAt(plan, i));
            }
            state = PLANNED;
        }
    }

    /** The exhibitions in the order of their numbers, and what hangs and is away for them. */
    private static final class Calendar {
        private final ArrayList<Exhibition> exhibitions = new ArrayList<>();

        int takenOn(int wall, int day) {
            int sum = 0;
            for (int i = 0; i < exhibitions.size(); i++) {
                Exhibition show = exhibitions.get(i);
                sum += show.hangsOn(day) ? show.spaceOn(wall) : 0;
            }
            return sum;
        }

        int worksOn(int wall, int day) {
            int count = 0;
            for (int i = 0; i < exhibitions.size(); i++) {
                Exhibition show = exhibitions.get(i);
                count += show.hangsOn(day) ? show.countOn(wall) : 0;
            }
            return count;
        }

        /** More comes to hang only on first days, so no other days need a look. */
        int mostTakenDuring(Exhibition show, int wall) {
            int most = takenOn(wall, show.first);
            for (int i = 0; i < exhibitions.size(); i++) {
                int start = exhibitions.get(i).first;
                if (isWithin(start, show.first, show.last)) {
                    most = Math.max(most, takenOn(wall, start));
                }
            }
            return most;
        }

        /** Whether a work on a wall during a show would break a separation from what hangs. */
        boolean isAgainst(Separations separations, Exhibition show, Work work, int wall) {
            for (int i = 0; i < exhibitions.size(); i++) {
                Exhibition other = exhibitions.get(i);
                if (!other.hangsDuring(show)) {
                    continue;
                }
                for (int k = 0; k < other.shown.size(); k++) {
                    char kind = separations.kindOf(work.number, other.shown.get(k).number);
                    if (isBroken(kind, wall, numberAt(other.walls, k))) {
                        return true;
                    }
                }
            }
            return false;
        }

        /** Whether two works hang on some day as they must not if they had this separation. */
        boolean hangsAgainst(Work work, Work other, char kind) {
            for (int i = 0; i < exhibitions.size(); i++) {
                Exhibition show = exhibitions.get(i);
                int index = show.indexOf(work);
                if (show.state == PLANNED && index != NONE
                        && meetsAgainst(show, numberAt(show.walls, index), other, kind)) {
                    return true;
                }
            }
            return false;
        }

        private boolean meetsAgainst(Exhibition show, int wall, Work other, char kind) {
            for (int i = 0; i < exhibitions.size(); i++) {
                Exhibition second = exhibitions.get(i);
                int index = second.indexOf(other);
                if (second.hangsDuring(show) && index != NONE
                        && isBroken(kind, wall, numberAt(second.walls, index))) {
                    return true;
                }
            }
            return false;
        }

        boolean allowsTaking(Exhibition show, Work work) {
            int travel = work.travelDays();
            for (int i = 0; i < exhibitions.size(); i++) {
                Exhibition other = exhibitions.get(i);
                if (other.number != show.number
                        && other.isAwayBetween(work, show.first - travel, show.last + travel)) {
                    return false;
                }
            }
            return work.isLentFor(show);
        }

        int exhibitionWith(Work work, int day) {
            for (int i = 0; i < exhibitions.size(); i++) {
                if (exhibitions.get(i).isAwayBetween(work, day, day)) {
                    return i;
                }
            }
            return NONE;
        }

        int takeDownMisplaced(House house) {
            int count = 0;
            for (int i = 0; i < exhibitions.size(); i++) {
                Exhibition show = exhibitions.get(i);
                if (show.state == PLANNED && !standsWhereItHangs(show, house)) {
                    show.state = WAITS;
                    count++;
                }
            }
            return count;
        }

        private boolean standsWhereItHangs(Exhibition show, House house) {
            for (int i = 0; i < show.shown.size(); i++) {
                if (!house.suits(show.shown.get(i), numberAt(show.walls, i))) {
                    return false;
                }
            }
            return true;
        }

        int plannedExhibitions() {
            int count = 0;
            for (int i = 0; i < exhibitions.size(); i++) {
                if (exhibitions.get(i).state == PLANNED) {
                    count++;
                }
            }
            return count;
        }

        int plannedWorks() {
            int count = 0;
            for (int i = 0; i < exhibitions.size(); i++) {
                if (exhibitions.get(i).state == PLANNED) {
                    count += exhibitions.get(i).shown.size();
                }
            }
            return count;
        }

        long insuredSum() {
            long sum = 0;
            for (int i = 0; i < exhibitions.size(); i++) {
                if (exhibitions.get(i).state == PLANNED) {
                    sum += exhibitions.get(i).insuredSum();
                }
            }
            return sum;
        }

        boolean allHangWell(House house, Separations separations) {
            for (int i = 0; i < exhibitions.size(); i++) {
                Exhibition show = exhibitions.get(i);
                if (show.state == PLANNED
                        && !(standsWhereItHangs(show, house) && keepsApart(show, separations))) {
                    return false;
                }
            }
            return true;
        }

        private boolean keepsApart(Exhibition show, Separations separations) {
            for (int i = 0; i < show.shown.size(); i++) {
                if (isAgainst(separations, show, show.shown.get(i), numberAt(show.walls, i))) {
                    return false;
                }
            }
            return true;
        }

        boolean fitsOn(House house) {
            for (int wall = 0; wall < house.walls(); wall++) {
                for (int day = 0; day <= LAST_DAY; day++) {
                    if (takenOn(wall, day) > house.lengthOf(wall)) {
                        return false;
                    }
                }
            }
            return true;
        }

        boolean takesWell() {
            for (int i = 0; i < exhibitions.size(); i++) {
                Exhibition show = exhibitions.get(i);
                if (show.state == PLANNED && !allowsTakingAll(show)) {
                    return false;
                }
            }
            return true;
        }

        private boolean allowsTakingAll(Exhibition show) {
            for (int i = 0; i < show.shown.size(); i++) {
                if (!allowsTaking(show, show.shown.get(i))) {
                    return false;
                }
            }
            return true;
        }
    }

    /** Where the plan of one exhibition is found; its rows serve again for the next one. */
    private static final class Board {
        private int works;
        private int walls;
        private final int[] free = new int[MOST_WALLS];
        private final int[] space = new int[MOST_SHOWN];
        private final int[] chosen = new int[MOST_SHOWN];
        /** 1 where a work could hang on a wall if it came alone; a row for each work. */
        private final int[] open = new int[MOST_SHOWN * MOST_WALLS];
        /** How each two works are separated; a row for each work. */
        private final int[] kinds = new int[MOST_SHOWN * MOST_SHOWN];

        /** Answers false if it is plain before any search that no plan is possible. */
        boolean prepare(Exhibition show, House house, Calendar calendar, Separations separations) {
            works = show.shown.size();
            walls = house.walls();
            for (int wall = 0; wall < walls; wall++) {
                putAt(free, wall, house.lengthOf(wall) - calendar.mostTakenDuring(show, wall));
            }
            for (int i = 0; i < show.shown.size(); i++) {
                Work work = show.shown.get(i);
                putAt(space, i, work.width + show.gap);
                for (int k = 0; k < i; k++) {
                    char kind = separations.kindOf(work.number, show.shown.get(k).number);
                    putAt(kinds, i * MOST_SHOWN + k, kind);
                }
                if (!calendar.allowsTaking(show, work)
                        || !opensAWall(i, work, show, house, calendar, separations)) {
                    return false;
                }
            }
            return true;
        }

        private boolean opensAWall(int index, Work work, Exhibition show, House house,
                Calendar calendar, Separations separations) {
            boolean opens = false;
            for (int wall = 0; wall < walls; wall++) {
                boolean fits = house.suits(work, wall)
                        && numberAt(space, index) <= numberAt(free, wall)
                        && !calendar.isAgainst(separations, show, work, wall);
                putAt(open, index * MOST_WALLS + wall, fits ? 1 : 0);
                opens = opens || fits;
            }
            return opens;
        }

        boolean hangWorkByWork() {
            return hangFrom(this, 0);
        }

        private static boolean hangFrom(Board board, int work) {
            if (work >= board.works || work >= MOST_SHOWN) {
                return true;
            }
            for (int wall = 0; wall < board.walls; wall++) {
                putAt(board.chosen, work, wall);
                if (board.fitsToThoseBefore(work) && hangFrom(board, work + 1)) {
                    return true;
                }
            }
            return false;
        }

        /**
         * Counts up through all plans, with the wall of the first work as the highest digit. Behind
         * a plan that is broken from some work on, those that begin alike are broken, too.
         */
        boolean searchAllWalls() {
            int plans = power(walls, works);
            int plan = 0;
            while (plan < plans) {
                chooseAsIn(plan);
                int sound = worksBeforeTheFirstMisfit();
                if (sound >= works) {
                    return true;
                }
                int alike = Math.max(1, power(walls, works - 1 - sound));
                plan += alike - plan % alike;
            }
            return false;
        }

        private void chooseAsIn(int plan) {
            int rest = plan;
            for (int i = works - 1; i >= 0 && walls > 0; i--) {
                putAt(chosen, i, rest % walls);
                rest /= walls;
            }
        }

        private int worksBeforeTheFirstMisfit() {
            for (int i = 0; i < works; i++) {
                if (!fitsToThoseBefore(i)) {
                    return i;
                }
            }
            return works;
        }

        private boolean fitsToThoseBefore(int work) {
            int wall = numberAt(chosen, work);
            if (numberAt(open, work * MOST_WALLS + wall) == 0) {
                return false;
            }
            int sum = numberAt(space, work);
            for (int i = 0; i < work; i++) {
                int otherWall = numberAt(chosen, i);
                if (isBroken((char) numberAt(kinds, work * MOST_SHOWN + i), wall, otherWall)) {
                    return false;
                }
                sum += otherWall == wall ? numberAt(space, i) : 0;
            }
            return sum <= numberAt(free, wall);
        }

        private static int power(int base, int exponent) {
            int product = 1;
            for (int i = 0; i < exponent; i++) {
                product *= base;
            }
            return product;
        }
    }

    /** What a lender sends for one exhibition; its rows serve again for the next question. */
    private static final class Loads {
        private int limit;
        private int count;
        private final int[] values = new int[MOST_SHOWN];
        /** All 0 between two questions, as each try takes back what it put. */
        private final int[] onTrip = new int[MOST_SHOWN];
        /** The trips that each group of works needs; a bit of the index stands for a work. */
        private final int[] needs = new int[1 << MOST_SHOWN];

        /** Answers false if a work is worth more than a trip may carry. */
        boolean collect(Exhibition show, Lender lender) {
            limit = lender.limit;
            count = 0;
            for (int i = 0; i < show.shown.size(); i++) {
                Work work = show.shown.get(i);
                if (work.isFrom(lender)) {
                    if (work.value > limit) {
                        return false;
                    }
                    putAt(values, count, work.value);
                    count++;
                }
            }
            return true;
        }

        int leastByGroups() {
            int groups = 1 << count;
            for (int group = 1; group < groups; group++) {
                putAt(needs, group, valueOf(group) <= limit ? 1 : needOfParts(group));
            }
            return numberAt(needs, groups - 1);
        }

        private int valueOf(int group) {
            int sum = 0;
            for (int i = 0; i < count; i++) {
                sum += ((group >> i) & 1) == 1 ? numberAt(values, i) : 0;
            }
            return sum;
        }

        private int needOfParts(int group) {
            int least = count;
            for (int part = 1; part < group; part++) {
                if ((part & group) == part) {
                    least = Math.min(least, numberAt(needs, part) + numberAt(needs, group ^ part));
                }
            }
            return least;
        }

        int leastByTrying() {
            return putFrom(this, 0, 0);
        }

        private static int putFrom(Loads loads, int work, int trips) {
            if (work >= loads.count || work >= MOST_SHOWN) {
                return trips;
            }
            int least = MOST_SHOWN;
            int value = numberAt(loads.values, work);
            for (int trip = 0; trip <= trips && trip < MOST_SHOWN; trip++) {
                int before = numberAt(loads.onTrip, trip);
                if (before + value <= loads.limit) {
                    putAt(loads.onTrip, trip, before + value);
                    least = Math.min(least, putFrom(loads, work + 1, Math.max(trips, trip + 1)));
                    putAt(loads.onTrip, trip, before);
                }
            }
            return least;
        }
    }
}
