import java.util.Arrays;
import java.util.NoSuchElementException;

/** Timers of keys on two clocks and rows that come with times, done in one order when a clock goes on. */
public final class TimerRows {
    public static final long NONE = -1L;

    private static final int NO_NUMBER = (int) NONE;
    private static final int EVENTS = 0;
    private static final int CLOCKS = 2;
    private static final long BEFORE_ALL = -1L;
    private static final long LAST_TIME = 1000000000000L;
    private static final long LONGEST_GAP = 1000000000L;
    private static final int MOST_OFTEN = 50;
    private static final int MOST_WAITING = 40;
    private static final int MOST_KEPT = 3;
    private static final int GROUPS = 128;
    private static final int NOWHERE = -1;

    // A full line of timers, each done and set again as often as it may be, and a full line of rows.
    private static final int MOST_DONE = MOST_WAITING * (MOST_OFTEN + 1) + MOST_WAITING;
    // Doubled five times this is MOST_DONE: most objects never need the room of the longest pass.
    private static final int FIRST_LOG_ROOM = MOST_DONE / 32;

    private final State live = new State();
    private final State[] kept = new State[MOST_KEPT];
    private final Log log = new Log();
    private int keptCount;

    public TimerRows() {
        keptCount = 0;
    }

    public int clear() {
        int waited = live.timers.size + live.rows.size;
        live.begin();
        log.size = 0;
        keptCount = 0;
        return waited;
    }

    public int set(int clock, long key, long time, long gap, int often)
            throws IllegalArgumentException, IllegalStateException {
        needClock(clock);
        needTime(time);
        if (gap < 0 || gap > LONGEST_GAP) {
            throw new IllegalArgumentException("no such gap");
        }
        if (often < 0 || often > MOST_OFTEN) {
            throw new IllegalArgumentException("no such often");
        }
        if (live.timers.isFull()) {
            throw new IllegalStateException("too many timers wait");
        }
        int number = live.takeTimerNumber();
        live.timers.enter(number, clock, key, time, gap, often);
        return number;
    }

    public long move(int timer, long time) throws IllegalArgumentException, NoSuchElementException {
        needTime(time);
        int place = needTimer(timer);
        long was = live.timers.timeAt(place);
        live.timers.retime(place, time);
        return was;
    }

    public boolean cancel(int timer) {
        int place = live.timers.placeOf(timer);
        if (place == NOWHERE) {
            return false;
        }
        live.timers.leave(place);
        return true;
    }

    public int row(long key, long time) throws IllegalArgumentException, IllegalStateException {
        needTime(time);
        if (time <= live.nows[EVENTS]) {
            live.late++;
            return NO_NUMBER;
        }
        if (live.rows.isFull()) {
            throw new IllegalStateException("too many rows wait");
        }
        int number = live.rowsCame;
        live.rowsCame++;
        live.rows.enter(number, EVENTS, key, time, 0L, 0);
        return number;
    }

    public boolean first(boolean rows) {
        boolean was = live.rowsFirst;
        live.rowsFirst = rows;
        return was;
    }

    public int pass(int clock, long time) throws IllegalArgumentException {
        needClock(clock);
        needTime(time);
        if (time < live.nows[clock]) {
            throw new IllegalArgumentException("a time below now");
        }
        live.nows[clock] = time;
        log.size = 0;
        for (int n = 0; n < MOST_DONE; n++) {
            if (!doFirstDue(clock, time)) {
                break;
            }
        }
        return log.size;
    }

    public long done(int i, int what) throws IllegalArgumentException, NoSuchElementException {
        needWhat(what, 4);
        if (i < 0 || i >= log.size) {
            throw new NoSuchElementException("not so many were done");
        }
        switch (what) {
            case 0:
                return log.kind[i];
            case 1:
                return log.number[i];
            case 2:
                return log.key[i];
            case 3:
                return log.time[i];
            default:
                return log.often[i];
        }
    }

    public long told(int timer, int what) throws IllegalArgumentException, NoSuchElementException {
        needWhat(what, 4);
        int slot = live.timers.order[needTimer(timer)];
        switch (what) {
            case 0:
                return live.timers.clock[slot];
            case 1:
                return live.timers.key[slot];
            case 2:
                return live.timers.time[slot];
            case 3:
                return live.timers.gap[slot];
            default:
                return live.timers.often[slot];
        }
    }

    public int next(int clock) throws IllegalArgumentException {
        needClock(clock);
        int place = live.timers.headOf(clock);
        return place == NOWHERE ? NO_NUMBER : live.timers.number[live.timers.order[place]];
    }

    public int waiting(int clock, long key, long from, long to) throws IllegalArgumentException {
        needClock(clock);
        if (from > to) {
            throw new IllegalArgumentException("from above to");
        }
        return live.timers.countBetween(clock, key, from, to);
    }

    public int keep() throws IllegalStateException {
        if (keptCount >= MOST_KEPT) {
            throw new IllegalStateException("three are kept");
        }
        int place = keptCount;
        State room = kept[place];
        if (room == null) {
            room = new State();
            kept[place] = room;
        }
        room.copyFrom(live);
        keptCount++;
        return place;
    }

    public int back(int place) throws IllegalArgumentException {
        State source = place < 0 || place >= keptCount ? null : kept[place];
        if (source == null) {
            throw new IllegalArgumentException("nothing is kept there");
        }
        live.copyFrom(source);
        return live.timers.size;
    }

    public int forget() throws IllegalStateException {
        if (keptCount == 0) {
            throw new IllegalStateException("none is kept");
        }
        keptCount--;
        return keptCount;
    }

    public int task(long key, int tasks) throws IllegalArgumentException {
        needTasks(tasks);
        return taskOf(key, tasks);
    }

    public int load(int task, int tasks) throws IllegalArgumentException {
        needTasks(tasks);
        if (task < 0 || task >= tasks) {
            throw new IllegalArgumentException("no such task");
        }
        return live.timers.countOfTask(task, tasks) + live.rows.countOfTask(task, tasks);
    }

    public int of(int what) throws IllegalArgumentException {
        needWhat(what, 6);
        switch (what) {
            case 0:
                return live.timers.size;
            case 1:
                return live.rows.size;
            case 2:
                return live.timersSet;
            case 3:
                return live.rowsCame;
            case 4:
                return live.late;
            case 5:
                return keptCount;
            default:
                return log.size;
        }
    }

    public long now(int clock) throws IllegalArgumentException {
        needClock(clock);
        return live.nows[clock];
    }

    private boolean doFirstDue(int clock, long time) {
        int timer = live.timers.dueOf(clock, time);
        int row = clock == EVENTS ? live.rows.dueOf(clock, time) : NOWHERE;
        if (timer == NOWHERE && row == NOWHERE) {
            return false;
        }
        if (timer == NOWHERE || (row != NOWHERE && live.rowGoesAhead(row, timer))) {
            log.add(0, live.rows, row);
            live.rows.leave(row);
        } else {
            log.add(1, live.timers, timer);
            live.finishTimer(timer);
        }
        return true;
    }

    private int needTimer(int timer) {
        int place = live.timers.placeOf(timer);
        if (place == NOWHERE) {
            throw new NoSuchElementException("no timer of this number waits");
        }
        return place;
    }

    private static void needClock(int clock) {
        if (clock < 0 || clock >= CLOCKS) {
            throw new IllegalArgumentException("no such clock");
        }
    }

    private static void needTime(long time) {
        if (time < 0 || time > LAST_TIME) {
            throw new IllegalArgumentException("no such time");
        }
    }

    private static void needWhat(int what, int last) {
        if (what < 0 || what > last) {
            throw new IllegalArgumentException("no such what");
        }
    }

    private static void needTasks(int tasks) {
        if (tasks < 1 || tasks > GROUPS) {
            throw new IllegalArgumentException("not so many tasks");
        }
    }

    private static int taskOf(long key, int tasks) {
        int group = (int) Math.floorMod(key, (long) GROUPS);
        return group * tasks / GROUPS;
    }

    /** All that is kept and brought back as one. */
    private static final class State {
        final Line timers = new Line();
        final Line rows = new Line();
        final long[] nows = new long[CLOCKS];
        int timersSet;
        int rowsCame;
        int late;
        boolean rowsFirst;

        State() {
            begin();
        }

        void begin() {
            timers.size = 0;
            rows.size = 0;
            Arrays.fill(nows, BEFORE_ALL);
            timersSet = 0;
            rowsCame = 0;
            late = 0;
            rowsFirst = true;
        }

        void copyFrom(State other) {
            timers.copyFrom(other.timers);
            rows.copyFrom(other.rows);
            System.arraycopy(other.nows, 0, nows, 0, CLOCKS);
            timersSet = other.timersSet;
            rowsCame = other.rowsCame;
            late = other.late;
            rowsFirst = other.rowsFirst;
        }

        int takeTimerNumber() {
            int number = timersSet;
            timersSet++;
            return number;
        }

        boolean rowGoesAhead(int row, int timer) {
            long rowTime = rows.timeAt(row);
            long timerTime = timers.timeAt(timer);
            return rowTime == timerTime ? rowsFirst : rowTime < timerTime;
        }

        void finishTimer(int place) {
            if (timers.often[timers.order[place]] > 0) {
                timers.setAgain(place, takeTimerNumber());
            } else {
                timers.leave(place);
            }
        }
    }

    /**
     * Up to MOST_WAITING timers, or rows, in THE ORDER. A place is where one stands in the order, a slot is
     * where its numbers are held. The order always holds every slot once: those in use, sorted, and behind
     * them the free ones, so that any of its entries is a safe index.
     */
    private static final class Line {
        final int[] order = new int[MOST_WAITING];
        final int[] number = new int[MOST_WAITING];
        final int[] clock = new int[MOST_WAITING];
        final long[] key = new long[MOST_WAITING];
        final long[] time = new long[MOST_WAITING];
        final long[] gap = new long[MOST_WAITING];
        final int[] often = new int[MOST_WAITING];
        int size;

        Line() {
            for (int slot = 0; slot < MOST_WAITING; slot++) {
                order[slot] = slot;
            }
            size = 0;
        }

        boolean isFull() {
            return size >= MOST_WAITING;
        }

        long timeAt(int place) {
            return time[order[place]];
        }

        void enter(int newNumber, int newClock, long newKey, long newTime, long newGap, int newOften) {
            int slot = order[size];
            number[slot] = newNumber;
            clock[slot] = newClock;
            key[slot] = newKey;
            time[slot] = newTime;
            gap[slot] = newGap;
            often[slot] = newOften;
            sortInFirstFree();
        }

        void leave(int place) {
            int slot = order[place];
            System.arraycopy(order, place + 1, order, place, size - place - 1);
            size--;
            order[size] = slot;
        }

        void retime(int place, long newTime) {
            leave(place);
            time[order[size]] = newTime;
            sortInFirstFree();
        }

        void setAgain(int place, int newNumber) {
            leave(place);
            // What has just left is the first free slot, with all its numbers still there.
            int slot = order[size];
            number[slot] = newNumber;
            time[slot] += gap[slot];
            often[slot]--;
            sortInFirstFree();
        }

        private void sortInFirstFree() {
            int slot = order[size];
            int place = countAheadOf(slot);
            System.arraycopy(order, place, order, place + 1, size - place);
            order[place] = slot;
            size++;
        }

        private int countAheadOf(int slot) {
            int ahead = 0;
            for (int step = 32; step > 0; step /= 2) {
                int tried = ahead + step;
                if (tried <= size && goesAhead(order[tried - 1], slot)) {
                    ahead = tried;
                }
            }
            return ahead;
        }

        private boolean goesAhead(int slot, int other) {
            if (time[slot] != time[other]) {
                return time[slot] < time[other];
            }
            if (key[slot] != key[other]) {
                return key[slot] < key[other];
            }
            return number[slot] < number[other];
        }

        int placeOf(int wanted) {
            for (int place = 0; place < size; place++) {
                if (number[order[place]] == wanted) {
                    return place;
                }
            }
            return NOWHERE;
        }

        int headOf(int wantedClock) {
            for (int place = 0; place < size; place++) {
                if (clock[order[place]] == wantedClock) {
                    return place;
                }
            }
            return NOWHERE;
        }

        int dueOf(int wantedClock, long until) {
            int place = headOf(wantedClock);
            return place != NOWHERE && timeAt(place) <= until ? place : NOWHERE;
        }

        int countBetween(int wantedClock, long wantedKey, long from, long to) {
            int count = 0;
            for (int place = 0; place < size; place++) {
                int slot = order[place];
                boolean inTime = time[slot] >= from && time[slot] <= to;
                if (inTime && clock[slot] == wantedClock && key[slot] == wantedKey) {
                    count++;
                }
            }
            return count;
        }

        int countOfTask(int task, int tasks) {
            int count = 0;
            for (int place = 0; place < size; place++) {
                if (taskOf(key[order[place]], tasks) == task) {
                    count++;
                }
            }
            return count;
        }

        void copyFrom(Line other) {
            System.arraycopy(other.order, 0, order, 0, MOST_WAITING);
            System.arraycopy(other.number, 0, number, 0, MOST_WAITING);
            System.arraycopy(other.clock, 0, clock, 0, MOST_WAITING);
            System.arraycopy(other.key, 0, key, 0, MOST_WAITING);
            System.arraycopy(other.time, 0, time, 0, MOST_WAITING);
            System.arraycopy(other.gap, 0, gap, 0, MOST_WAITING);
            System.arraycopy(other.often, 0, often, 0, MOST_WAITING);
            size = other.size;
        }
    }

    /** What was done in the last pass, in its order; kind is 1 of a timer, 0 of a row. */
    private static final class Log {
        int[] kind = new int[FIRST_LOG_ROOM];
        int[] number = new int[FIRST_LOG_ROOM];
        long[] key = new long[FIRST_LOG_ROOM];
        long[] time = new long[FIRST_LOG_ROOM];
        int[] often = new int[FIRST_LOG_ROOM];
        int size;

        void add(int newKind, Line line, int place) {
            if (size >= kind.length) {
                grow();
            }
            int slot = line.order[place];
            kind[size] = newKind;
            number[size] = line.number[slot];
            key[size] = line.key[slot];
            time[size] = line.time[slot];
            often[size] = line.often[slot];
            size++;
        }

        private void grow() {
            int room = 2 * kind.length;
            kind = Arrays.copyOf(kind, room);
            number = Arrays.copyOf(number, room);
            key = Arrays.copyOf(key, room);
            time = Arrays.copyOf(time, room);
            often = Arrays.copyOf(often, room);
        }
    }
}
