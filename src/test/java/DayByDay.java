import java.util.ArrayList;
import java.util.List;
import java.util.NoSuchElementException;

/**
 * A slow planner written from the document's words: it looks at each day alone and tries every plan. It
 * shares no code with the planner under test, so a fault in one of them shows as a difference.
 */
final class DayByDay {
    private record Room(int[] climate, int[] lengths) { }

    private record Lender(int limit, int days, int longest) { }

    private record Work(int width, int low, int high, int light, int value, int lender) { }

    private static final class Show {
        int first;
        int last;
        int gap;
        char state = 'd';
        List<Integer> works = new ArrayList<>();
        int[] walls = new int[5];
    }

    private final List<Room> rooms = new ArrayList<>();
    private final List<Lender> lenders = new ArrayList<>();
    private final List<Work> works = new ArrayList<>();
    private final List<Show> shows = new ArrayList<>();
    private final char[][] kinds = new char[12][12];
    private int planned = 0;

    int rooms() {
        return rooms.size();
    }

    int lenders() {
        return lenders.size();
    }

    int works() {
        return works.size();
    }

    int exhibitions() {
        return shows.size();
    }

    boolean isThere(int exhibition) {
        return exhibition >= 0 && exhibition < shows.size();
    }

    int addRoom(int humidity, int light, int first, int second) {
        range(humidity, 0, 100);
        range(light, 0, 100);
        range(first, 1, 400);
        range(second, 1, 400);
        state(rooms.size() < 4);
        rooms.add(new Room(new int[] {humidity, light}, new int[] {first, second}));
        lookAtThoseThatWait();
        return rooms.size() - 1;
    }

    int setClimate(int room, int humidity, int light) {
        index(room, rooms.size());
        range(humidity, 0, 100);
        range(light, 0, 100);
        rooms.get(room).climate[0] = humidity;
        rooms.get(room).climate[1] = light;
        int down = 0;
        for (Show show : shows) {
            boolean misplaced = false;
            for (int i = 0; i < show.works.size(); i++) {
                misplaced |= show.walls[i] / 2 == room && !canHang(show.works.get(i), room);
            }
            if (show.state == 'p' && misplaced) {
                show.state = 'w';
                down++;
            }
        }
        lookAtThoseThatWait();
        return down;
    }

    int addLender(int limit, int days, int longest) {
        range(limit, 1, 9999);
        range(days, 0, 9);
        range(longest, 1, 100);
        state(lenders.size() < 4);
        lenders.add(new Lender(limit, days, longest));
        return lenders.size() - 1;
    }

    int addWork(int width, int low, int high, int light, int value, int lender) {
        range(width, 1, 200);
        range(low, 0, 100);
        range(high, low, 100);
        range(light, 0, 100);
        range(value, 1, 999);
        range(lender, -1, lenders.size() - 1);
        state(works.size() < 12);
        works.add(new Work(width, low, high, light, value, lender));
        return works.size() - 1;
    }

    int separate(int work, int other, char kind) {
        index(work, works.size());
        index(other, works.size());
        if (work == other || kind != 'r' && kind != 'w') {
            throw new IllegalArgumentException();
        }
        char before = kinds[work][other];
        kinds[work][other] = kind;
        kinds[other][work] = kind;
        for (int day = 0; day <= 99; day++) {
            if (!isRightOn(day)) {
                kinds[work][other] = before;
                kinds[other][work] = before;
                throw new IllegalStateException();
            }
        }
        lookAtThoseThatWait();
        int pairs = 0;
        for (int i = 0; i < 12; i++) {
            for (int k = 0; k < i; k++) {
                pairs += kinds[i][k] == 0 ? 0 : 1;
            }
        }
        return pairs;
    }

    char separation(int work, int other) {
        index(work, works.size());
        index(other, works.size());
        return kinds[work][other] == 0 ? 'n' : kinds[work][other];
    }

    boolean canHang(int work, int room) {
        index(work, works.size());
        index(room, rooms.size());
        Work w = works.get(work);
        int[] climate = rooms.get(room).climate;
        return climate[0] >= w.low && climate[0] <= w.high && climate[1] <= w.light;
    }

    int addExhibition(int first, int last, int gap) {
        range(first, 0, 99);
        range(last, first, 99);
        range(gap, 0, 50);
        state(shows.size() < 8);
        Show show = new Show();
        show.first = first;
        show.last = last;
        show.gap = gap;
        shows.add(show);
        return shows.size() - 1;
    }

    int include(int exhibition, int work) {
        Show show = show(exhibition);
        index(work, works.size());
        state(show.state == 'd' && show.works.size() < 5 && !show.works.contains(work));
        show.works.add(work);
        return show.works.size();
    }

    char request(int exhibition) {
        Show show = show(exhibition);
        state(show.state == 'd');
        if (show.works.isEmpty()) {
            throw new UnsupportedOperationException();
        }
        show.state = 'w';
        planIfPossible(show);
        return show.state;
    }

    int cancel(int exhibition) {
        Show show = show(exhibition);
        state(show.state != 'c');
        show.state = 'c';
        return lookAtThoseThatWait();
    }

    char stateOf(int exhibition) {
        return show(exhibition).state;
    }

    int worksOf(int exhibition) {
        return show(exhibition).works.size();
    }

    int workOf(int exhibition, int index) {
        Show show = show(exhibition);
        index(index, show.works.size());
        return show.works.get(index);
    }

    int wallOf(int exhibition, int index) {
        workOf(exhibition, index);
        state(show(exhibition).state == 'p');
        return show(exhibition).walls[index];
    }

    boolean canTake(int exhibition, int index) {
        workOf(exhibition, index);
        state(show(exhibition).state != 'c');
        return takes(show(exhibition), show(exhibition).works.get(index));
    }

    int wallFor(int exhibition, int index) {
        workOf(exhibition, index);
        Show show = show(exhibition);
        state(show.state == 'd' || show.state == 'w');
        int[] plan = firstPlan(show);
        if (plan == null) {
            throw new UnsupportedOperationException();
        }
        return plan[index];
    }

    int trips(int exhibition, int lender) {
        Show show = show(exhibition);
        index(lender, lenders.size());
        List<Integer> values = new ArrayList<>();
        for (int work : show.works) {
            if (works.get(work).lender == lender) {
                values.add(works.get(work).value);
            }
        }
        int limit = lenders.get(lender).limit;
        for (int value : values) {
            if (value > limit) {
                throw new UnsupportedOperationException();
            }
        }
        int trips = 0;
        while (!canBring(values, trips, limit)) {
            trips++;
        }
        return trips;
    }

    int taken(int wall, int day) {
        index(wall, rooms.size() * 2);
        range(day, 0, 99);
        int sum = 0;
        for (int[] hung : hungOn(day)) {
            sum += hung[1] == wall ? works.get(hung[0]).width + hung[2] : 0;
        }
        return sum;
    }

    int hanging(int wall, int day) {
        index(wall, rooms.size() * 2);
        range(day, 0, 99);
        int count = 0;
        for (int[] hung : hungOn(day)) {
            count += hung[1] == wall ? 1 : 0;
        }
        return count;
    }

    int awayFor(int work, int day) {
        index(work, works.size());
        range(day, -9, 108);
        for (int i = 0; i < shows.size(); i++) {
            if (shows.get(i).state == 'p' && wouldBeAway(shows.get(i), work, day)) {
                return i;
            }
        }
        throw new NoSuchElementException();
    }

    int planned() {
        return planned;
    }

    long insured() {
        long sum = 0;
        for (int work = 0; work < works.size(); work++) {
            for (int day = -9; day <= 108; day++) {
                for (Show show : shows) {
                    if (works.get(work).lender >= 0 && show.state == 'p'
                            && wouldBeAway(show, work, day)) {
                        sum += works.get(work).value;
                    }
                }
            }
        }
        return sum;
    }

    double meanWorks() {
        double count = 0;
        double sum = 0;
        for (Show show : shows) {
            if (show.state == 'p') {
                count++;
                sum += show.works.size();
            }
        }
        if (count == 0) {
            throw new ArithmeticException();
        }
        return sum / count;
    }

    float share(int wall, int day) {
        return (float) taken(wall, day) / (float) rooms.get(wall / 2).lengths[wall % 2];
    }

    private static void range(int number, int least, int most) {
        if (number < least || number > most) {
            throw new IllegalArgumentException();
        }
    }

    private static void index(int index, int size) {
        if (index < 0 || index >= size) {
            throw new IndexOutOfBoundsException();
        }
    }

    private static void state(boolean holds) {
        if (!holds) {
            throw new IllegalStateException();
        }
    }

    private Show show(int exhibition) {
        if (!isThere(exhibition)) {
            throw new NoSuchElementException();
        }
        return shows.get(exhibition);
    }

    /** All that hangs on a day: for each the work, the wall and the gap. */
    private List<int[]> hungOn(int day) {
        List<int[]> hung = new ArrayList<>();
        for (Show show : shows) {
            for (int i = 0; show.state == 'p' && i < show.works.size(); i++) {
                if (day >= show.first && day <= show.last) {
                    hung.add(new int[] {show.works.get(i), show.walls[i], show.gap});
                }
            }
        }
        return hung;
    }

    private boolean isRightOn(int day) {
        List<int[]> hung = hungOn(day);
        int[] sums = new int[8];
        for (int[] one : hung) {
            sums[one[1]] += works.get(one[0]).width + one[2];
            if (!canHang(one[0], one[1] / 2)
                    || sums[one[1]] > rooms.get(one[1] / 2).lengths[one[1] % 2]) {
                return false;
            }
            for (int[] two : hung) {
                char kind = kinds[one[0]][two[0]];
                if (kind == 'r' && one[1] / 2 == two[1] / 2 || kind == 'w' && one[1] == two[1]) {
                    return false;
                }
            }
        }
        return true;
    }

    private boolean wouldBeAway(Show show, int work, int day) {
        int lender = works.get(work).lender;
        int travel = lender < 0 ? 0 : lenders.get(lender).days;
        return show.works.contains(work) && day >= show.first - travel && day <= show.last + travel;
    }

    private boolean takes(Show show, int work) {
        for (int day = -9; day <= 108; day++) {
            for (Show other : shows) {
                if (other != show && other.state == 'p' && wouldBeAway(show, work, day)
                        && wouldBeAway(other, work, day)) {
                    return false;
                }
            }
        }
        if (works.get(work).lender < 0) {
            return true;
        }
        Lender lender = lenders.get(works.get(work).lender);
        return works.get(work).value <= lender.limit
                && show.last - show.first + 1 <= lender.longest
                && show.first >= lender.days;
    }

    private int lookAtThoseThatWait() {
        int before = planned;
        for (Show show : shows) {
            if (show.state == 'w') {
                planIfPossible(show);
            }
        }
        return planned - before;
    }

    private void planIfPossible(Show show) {
        int[] plan = firstPlan(show);
        if (plan != null) {
            show.walls = plan;
            show.state = 'p';
            planned++;
        }
    }

    /** Tries all plans in their order, hanging the whole exhibition for each. */
    private int[] firstPlan(Show show) {
        for (int work : show.works) {
            if (!takes(show, work)) {
                return null;
            }
        }
        char state = show.state;
        int[] walls = show.walls;
        show.state = 'p';
        show.walls = new int[5];
        int[] found = tryPlans(show, 0) ? show.walls : null;
        show.state = state;
        show.walls = walls;
        return found;
    }

    private boolean tryPlans(Show show, int index) {
        if (index == show.works.size()) {
            for (int day = show.first; day <= show.last; day++) {
                if (!isRightOn(day)) {
                    return false;
                }
            }
            return true;
        }
        for (int wall = 0; wall < rooms.size() * 2; wall++) {
            show.walls[index] = wall;
            if (canHang(show.works.get(index), wall / 2) && tryPlans(show, index + 1)) {
                return true;
            }
        }
        return false;
    }

    /** Gives each work each trip, one number in the base of the trips for each way to do it. */
    private static boolean canBring(List<Integer> values, int trips, int limit) {
        int ways = 1;
        for (int i = 0; i < values.size(); i++) {
            ways *= trips;
        }
        for (int way = 0; way < ways; way++) {
            int[] loads = new int[trips + 1];
            int rest = way;
            boolean fits = true;
            for (int value : values) {
                loads[rest % trips] += value;
                fits &= loads[rest % trips] <= limit;
                rest /= trips;
            }
            if (fits) {
                return true;
            }
        }
        return false;
    }
}
