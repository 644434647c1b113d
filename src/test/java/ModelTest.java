import java.util.ArrayList;
import java.util.List;
import java.util.Random;
import java.util.function.Supplier;

/** Many runs of random calls, each answered by TimerRows and by the Model; seeds are fixed, so runs repeat. */
public final class ModelTest {
    private static final int RUNS = 1500;
    private static final int CALLS = 512;
    private static final long[] KEYS = {0, 1, 2, -1, -2, 127, 128, 129, -128, Long.MIN_VALUE, Long.MAX_VALUE};
    private static final long[] WRONG = {-1, 1_000_000_000_001L, Long.MIN_VALUE, Long.MAX_VALUE};
    private static final int[] ODD = {-1, Integer.MIN_VALUE, Integer.MAX_VALUE, 2, 5, 7, 51, 129};

    private final Random random;
    private final TimerRows real = new TimerRows();
    private final Model model = new Model();
    private final List<String> told = new ArrayList<>();
    private final int wrongShare;
    private final long lastTime;
    private final boolean fills;

    private ModelTest(long seed) {
        random = new Random(seed);
        wrongShare = 5 + random.nextInt(60);
        fills = seed % 3 == 0;
        lastTime = seed % 7 == 0 ? 1_000_000_000_000L : 3 + random.nextInt(200);
    }

    public static void main(String[] args) {
        for (int seed = 1; seed <= RUNS; seed++) {
            new ModelTest(seed).run(seed);
        }
        Script.end();
    }

    private void run(int seed) {
        for (int n = 0; n < CALLS; n++) {
            if (!call()) {
                int from = Math.max(0, told.size() - 12);
                Script.tell("seed " + seed + ", call " + n + ": " + told.subList(from, told.size()));
                return;
            }
        }
        if (!seenAlike()) {
            Script.tell("seed " + seed + ": what was done or waits at the end differs");
        }
    }

    private boolean call() {
        int kind = random.nextInt(100);
        if (kind < 26) {
            return callSet();
        }
        if (kind < 44) {
            return callRow();
        }
        // Runs that fill their lines pass seldom, so that 40 wait.
        if (kind < 50 && (!fills || random.nextInt(12) == 0)) {
            return callPass();
        }
        if (kind < 62) {
            return callOnTimer();
        }
        if (kind < 74) {
            return callKept();
        }
        return callAsking(random.nextInt(9));
    }

    private boolean callSet() {
        int clock = clock();
        long key = key();
        long time = time();
        long gap = gap();
        int often = odd() ? oddInt() : random.nextInt(4) == 0 ? 50 : random.nextInt(4);
        return alike("set(" + clock + ", " + key + ", " + time + ", " + gap + ", " + often + ")",
                () -> real.set(clock, key, time, gap, often), () -> model.set(clock, key, time, gap, often));
    }

    private boolean callRow() {
        long key = key();
        long time = time();
        return alike("row(" + key + ", " + time + ")", () -> real.row(key, time), () -> model.row(key, time));
    }

    private boolean callPass() {
        int clock = clock();
        long now = clock == 1 ? model.now(1) : model.now(0);
        long step = random.nextInt(3) == 0 ? 0 : (long) (random.nextDouble() * lastTime / 6);
        long time = random.nextInt(8) == 0 ? time() : Math.min(1_000_000_000_000L, now + step);
        return alike("pass(" + clock + ", " + time + ")", () -> real.pass(clock, time),
                () -> model.pass(clock, time));
    }

    private boolean callOnTimer() {
        int timer = timer();
        if (random.nextInt(3) == 0) {
            return alike("cancel(" + timer + ")", () -> real.cancel(timer), () -> model.cancel(timer));
        }
        long time = time();
        return alike("move(" + timer + ", " + time + ")", () -> real.move(timer, time),
                () -> model.move(timer, time));
    }

    private boolean callKept() {
        int kind = random.nextInt(12);
        if (kind < 4) {
            return alike("keep()", real::keep, model::keep);
        }
        if (kind < 8) {
            int place = odd() ? oddInt() : random.nextInt(3);
            return alike("back(" + place + ")", () -> real.back(place), () -> model.back(place));
        }
        if (kind < 10) {
            return alike("forget()", real::forget, model::forget);
        }
        if (random.nextInt(20) == 0) {
            return alike("clear()", real::clear, model::clear);
        }
        boolean rows = random.nextBoolean();
        return alike("first(" + rows + ")", () -> real.first(rows), () -> model.first(rows));
    }

    private boolean callAsking(int kind) {
        int clock = clock();
        int what = odd() ? oddInt() : random.nextInt(5);
        int timer = timer();
        long key = key();
        int tasks = odd() ? oddInt() : 1 + random.nextInt(128);
        switch (kind) {
            case 0:
                int i = odd() ? oddInt() : random.nextInt(1 + model.of(6));
                return alike("done(" + i + ", " + what + ")", () -> real.done(i, what), () -> model.done(i, what));
            case 1:
                return alike("told(" + timer + ", " + what + ")", () -> real.told(timer, what),
                        () -> model.told(timer, what));
            case 2:
                return alike("next(" + clock + ")", () -> real.next(clock), () -> model.next(clock));
            case 3:
                long from = time();
                long to = time();
                return alike("waiting(" + clock + ", " + key + ", " + from + ", " + to + ")",
                        () -> real.waiting(clock, key, from, to), () -> model.waiting(clock, key, from, to));
            case 4:
                return alike("task(" + key + ", " + tasks + ")", () -> real.task(key, tasks),
                        () -> model.task(key, tasks));
            case 5:
                int task = odd() ? oddInt() : random.nextInt(Math.max(1, Math.min(tasks, 128)));
                return alike("load(" + task + ", " + tasks + ")", () -> real.load(task, tasks),
                        () -> model.load(task, tasks));
            case 6:
                int which = odd() ? oddInt() : random.nextInt(7);
                return alike("of(" + which + ")", () -> real.of(which), () -> model.of(which));
            case 7:
                return alike("now(" + clock + ")", () -> real.now(clock), () -> model.now(clock));
            default:
                return seenAlike();
        }
    }

    private boolean seenAlike() {
        for (int what = 0; what <= 6; what++) {
            int which = what;
            if (!alike("of(" + which + ")", () -> real.of(which), () -> model.of(which))) {
                return false;
            }
        }
        for (int i = 0; i < model.of(6); i++) {
            for (int what = 0; what <= 4; what++) {
                int at = i;
                int which = what;
                if (!alike("done(" + at + ", " + which + ")", () -> real.done(at, which),
                        () -> model.done(at, which))) {
                    return false;
                }
            }
        }
        for (int timer = 0; timer < model.of(2); timer++) {
            int at = timer;
            if (!alike("told(" + at + ", 2)", () -> real.told(at, 2), () -> model.told(at, 2))) {
                return false;
            }
        }
        return true;
    }

    private boolean alike(String call, Supplier<Object> mine, Supplier<Object> theirs) {
        String got = Seen.text(mine);
        String due = Seen.text(theirs);
        told.add(call + " " + got);
        if (got.equals(due)) {
            return true;
        }
        told.add("but due is " + due);
        return false;
    }

    private boolean odd() {
        return random.nextInt(wrongShare) == 0;
    }

    private int oddInt() {
        return ODD[random.nextInt(ODD.length)];
    }

    private long wrong() {
        return WRONG[random.nextInt(WRONG.length)];
    }

    private int clock() {
        return odd() ? oddInt() : random.nextInt(3) == 0 ? 1 : 0;
    }

    private long key() {
        return KEYS[random.nextInt(random.nextBoolean() ? 3 : KEYS.length)];
    }

    private long time() {
        return odd() ? wrong() : (long) (random.nextDouble() * (lastTime + 1));
    }

    private long gap() {
        if (odd()) {
            return random.nextBoolean() ? 1_000_000_001L : wrong();
        }
        return random.nextInt(3) == 0 ? 0 : Math.min(lastTime, 1_000_000_000L) / (1 + random.nextInt(20));
    }

    private int timer() {
        List<Integer> waiting = model.timers();
        if (!waiting.isEmpty() && random.nextInt(3) != 0) {
            return waiting.get(random.nextInt(waiting.size()));
        }
        return odd() ? oddInt() : Math.max(0, model.of(2) - random.nextInt(60));
    }
}
