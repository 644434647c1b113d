import java.util.ArrayList;
import java.util.Comparator;
import java.util.List;
import java.util.NoSuchElementException;

/** The document again in the plainest words: lists of what waits, sorted anew for each one that is done. */
final class Model {
    record Item(boolean timer, int number, int clock, long key, long time, long gap, int often) {
    }

    private record World(List<Item> items, long now0, long now1, int timersSet, int rowsCame, int late,
            boolean rowsFirst) {
    }

    private World world;
    private List<Item> done;
    private List<World> kept;

    Model() {
        begin();
    }

    private void begin() {
        world = new World(List.of(), -1, -1, 0, 0, 0, true);
        done = List.of();
        kept = List.of();
    }

    private static void argument(boolean good) {
        if (!good) {
            throw new IllegalArgumentException();
        }
    }

    private static void state(boolean good) {
        if (!good) {
            throw new IllegalStateException();
        }
    }

    private static boolean isTime(long time) {
        return 0 <= time && time <= 1_000_000_000_000L;
    }

    private static boolean isClock(int clock) {
        return clock == 0 || clock == 1;
    }

    private int count(boolean timer) {
        return (int) world.items.stream().filter(i -> i.timer == timer).count();
    }

    private Item timer(int number) {
        return world.items.stream().filter(i -> i.timer && i.number == number).findFirst()
                .orElseThrow(NoSuchElementException::new);
    }

    /** The numbers of the timers that wait: no call of the document, for choosing calls that hit. */
    List<Integer> timers() {
        return world.items.stream().filter(Item::timer).map(Item::number).toList();
    }

    private static List<Item> without(List<Item> items, Item item) {
        List<Item> left = new ArrayList<>(items);
        left.remove(item);
        return List.copyOf(left);
    }

    private static List<Item> with(List<Item> items, Item item) {
        List<Item> more = new ArrayList<>(items);
        more.add(item);
        return List.copyOf(more);
    }

    private Comparator<Item> order() {
        boolean rowsFirst = world.rowsFirst;
        return Comparator.comparingLong(Item::time)
                .thenComparingInt(i -> i.timer == rowsFirst ? 1 : 0)
                .thenComparingLong(Item::key)
                .thenComparingInt(Item::number);
    }

    int clear() {
        int waited = world.items.size();
        begin();
        return waited;
    }

    int set(int clock, long key, long time, long gap, int often) {
        argument(isClock(clock) && isTime(time) && 0 <= gap && gap <= 1_000_000_000 && 0 <= often && often <= 50);
        state(count(true) < 40);
        int number = world.timersSet;
        addTimer(new Item(true, number, clock, key, time, gap, often));
        return number;
    }

    private void addTimer(Item item) {
        world = new World(with(world.items, item), world.now0, world.now1, world.timersSet + 1, world.rowsCame,
                world.late, world.rowsFirst);
    }

    private void items(List<Item> items) {
        world = new World(items, world.now0, world.now1, world.timersSet, world.rowsCame, world.late,
                world.rowsFirst);
    }

    long move(int timer, long time) {
        argument(isTime(time));
        Item t = timer(timer);
        items(with(without(world.items, t), new Item(true, t.number, t.clock, t.key, time, t.gap, t.often)));
        return t.time;
    }

    boolean cancel(int timer) {
        int before = world.items.size();
        items(world.items.stream().filter(i -> !i.timer || i.number != timer).toList());
        return world.items.size() < before;
    }

    int row(long key, long time) {
        argument(isTime(time));
        if (time <= world.now0) {
            world = new World(world.items, world.now0, world.now1, world.timersSet, world.rowsCame,
                    world.late + 1, world.rowsFirst);
            return -1;
        }
        state(count(false) < 40);
        int number = world.rowsCame;
        world = new World(with(world.items, new Item(false, number, 0, key, time, 0, 0)), world.now0, world.now1,
                world.timersSet, world.rowsCame + 1, world.late, world.rowsFirst);
        return number;
    }

    boolean first(boolean rows) {
        boolean was = world.rowsFirst;
        world = new World(world.items, world.now0, world.now1, world.timersSet, world.rowsCame, world.late, rows);
        return was;
    }

    int pass(int clock, long time) {
        argument(isClock(clock) && isTime(time) && time >= now(clock));
        world = new World(world.items, clock == 0 ? time : world.now0, clock == 1 ? time : world.now1,
                world.timersSet, world.rowsCame, world.late, world.rowsFirst);
        List<Item> log = new ArrayList<>();
        while (true) {
            Item due = world.items.stream().filter(i -> i.clock == clock && i.time <= time).min(order())
                    .orElse(null);
            if (due == null) {
                break;
            }
            log.add(due);
            items(without(world.items, due));
            if (due.timer && due.often > 0) {
                addTimer(new Item(true, world.timersSet, due.clock, due.key, due.time + due.gap, due.gap,
                        due.often - 1));
            }
        }
        done = log;
        return log.size();
    }

    long done(int i, int what) {
        argument(what >= 0 && what <= 4);
        if (i < 0 || i >= done.size()) {
            throw new NoSuchElementException();
        }
        Item d = done.get(i);
        return new long[] {d.timer ? 1 : 0, d.number, d.key, d.time, d.often}[what];
    }

    long told(int timer, int what) {
        argument(what >= 0 && what <= 4);
        Item t = timer(timer);
        return new long[] {t.clock, t.key, t.time, t.gap, t.often}[what];
    }

    int next(int clock) {
        argument(isClock(clock));
        return world.items.stream().filter(i -> i.timer && i.clock == clock).min(order()).map(Item::number)
                .orElse(-1);
    }

    int waiting(int clock, long key, long from, long to) {
        argument(isClock(clock) && from <= to);
        return (int) world.items.stream()
                .filter(i -> i.timer && i.clock == clock && i.key == key && from <= i.time && i.time <= to).count();
    }

    int keep() {
        state(kept.size() < 3);
        kept = new ArrayList<>(kept);
        kept.add(world);
        return kept.size() - 1;
    }

    int back(int place) {
        argument(place >= 0 && place < kept.size());
        world = kept.get(place);
        return count(true);
    }

    int forget() {
        state(!kept.isEmpty());
        kept = new ArrayList<>(kept.subList(0, kept.size() - 1));
        return kept.size();
    }

    int task(long key, int tasks) {
        argument(tasks >= 1 && tasks <= 128);
        long group = ((key % 128) + 128) % 128;
        return (int) (group * tasks / 128);
    }

    int load(int task, int tasks) {
        argument(tasks >= 1 && tasks <= 128 && task >= 0 && task < tasks);
        return (int) world.items.stream().filter(i -> task(i.key, tasks) == task).count();
    }

    int of(int what) {
        argument(what >= 0 && what <= 6);
        return new int[] {count(true), count(false), world.timersSet, world.rowsCame, world.late, kept.size(),
            done.size()}[what];
    }

    long now(int clock) {
        argument(isClock(clock));
        return clock == 0 ? world.now0 : world.now1;
    }
}
