import java.util.function.Supplier;

/** What can be seen of an object, as text; a call that throws is text too, so that a broken class stops no test. */
final class Seen {
    private Seen() {
    }

    static String text(Supplier<Object> call) {
        try {
            return String.valueOf(call.get());
        } catch (RuntimeException e) {
            return "throws." + e.getClass().getSimpleName();
        }
    }

    private static int count(TimerRows x, int what) {
        String count = text(() -> x.of(what));
        return count.startsWith("throws.") ? 0 : Integer.parseInt(count);
    }

    /** What was done in the last pass: r and t with the numbers of rows and timers, - for none. */
    static String order(TimerRows x) {
        StringBuilder s = new StringBuilder();
        for (int n = 0; n < count(x, 6); n++) {
            int i = n;
            String kind = text(() -> x.done(i, 0));
            s.append(kind.equals("1") ? " t" : kind.equals("0") ? " r" : " " + kind).append(text(() -> x.done(i, 1)));
        }
        return s.isEmpty() ? "-" : s.substring(1);
    }

    /** The timers that wait, as number@time, - for none. */
    static String timers(TimerRows x) {
        StringBuilder s = new StringBuilder();
        for (int n = 0; n < count(x, 2); n++) {
            int timer = n;
            String time = text(() -> x.told(timer, 2));
            if (!time.startsWith("throws.")) {
                s.append(' ').append(timer).append('@').append(time);
            }
        }
        return s.isEmpty() ? "-" : s.substring(1);
    }

    /** All that can be seen by calls that change nothing (or change it and back). */
    static String all(TimerRows x) {
        StringBuilder s = new StringBuilder();
        for (int n = 0; n <= 6; n++) {
            int what = n;
            s.append(text(() -> x.of(what))).append(' ');
        }
        for (int n = 0; n <= 1; n++) {
            int clock = n;
            s.append(text(() -> x.now(clock))).append(' ').append(text(() -> x.next(clock))).append(' ');
        }
        for (int n = 0; n < 128; n++) {
            int task = n;
            s.append(text(() -> x.load(task, 128))).append(' ');
        }
        for (int timer = 0; timer < count(x, 2); timer++) {
            told(x, timer, s);
        }
        for (int i = 0; i < count(x, 6); i++) {
            done(x, i, s);
        }
        boolean rowsFirst = x.first(true);
        x.first(rowsFirst);
        return s.append(rowsFirst).toString();
    }

    private static void told(TimerRows x, int timer, StringBuilder s) {
        String clock = text(() -> x.told(timer, 0));
        s.append(clock).append(' ');
        for (int n = 1; n <= 4 && !clock.startsWith("throws."); n++) {
            int what = n;
            s.append(text(() -> x.told(timer, what))).append(' ');
        }
    }

    private static void done(TimerRows x, int i, StringBuilder s) {
        for (int n = 0; n <= 4; n++) {
            int what = n;
            s.append(text(() -> x.done(i, what))).append(' ');
        }
    }

    /** All that an object holds, brought to light: both clocks go on to the end, from now and from all it keeps. */
    static String goesOn(TimerRows x) {
        StringBuilder s = new StringBuilder(all(x));
        toTheEnd(x, s);
        for (int n = 0; n < 3; n++) {
            int place = n;
            s.append("\nback ").append(text(() -> x.back(place))).append(' ').append(all(x));
            toTheEnd(x, s);
        }
        return s.toString();
    }

    private static void toTheEnd(TimerRows x, StringBuilder s) {
        for (int n = 0; n <= 1; n++) {
            int clock = n;
            s.append("\npass ").append(text(() -> x.pass(clock, 1_000_000_000_000L))).append(' ').append(all(x));
        }
    }
}
