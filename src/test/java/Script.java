import java.lang.reflect.InvocationTargetException;
import java.lang.reflect.Method;
import java.util.ArrayList;
import java.util.List;
import java.util.NoSuchElementException;

/**
 * Runs of calls written as text, on a new object each. A line is a call and the answer that is due:
 *
 *   set(0, 5, 10, 3, 2)    0
 *   first(false)           true
 *   done(7, 0)             throws.NoSuchElementException
 *   set(0, least, 1, 0, 0) 1          (least and most: the ends of the argument's type)
 *   40 x row(1, 2)         *          (40 times, any answer but an exception)
 *   order()                r0 t3 t1   (no call of the face: rows and timers done in the last pass, - for none)
 *   timers()               0@7 4@12   (no call of the face: timers that wait, with their times, - for none)
 *
 * A call that throws must leave all that can be seen as it was; every such call is tested for that too. What
 * can't be seen at once is tested at the end: the same run without the calls that throw must leave an object that
 * goes on alike.
 */
final class Script {
    private static int wrong = 0;

    private Script() {
    }

    static void run(String name, String lines) {
        TimerRows x = new TimerRows();
        TimerRows spared = new TimerRows();
        for (String line : lines.split("\n")) {
            if (!line.isBlank()) {
                runLine(name, x, line.strip());
                if (!line.contains("throws.")) {
                    runLine(name + ", without the calls that throw", spared, line.strip());
                }
            }
        }
        if (!goesOn(x).equals(goesOn(spared))) {
            tell(name + ": goes on otherwise than without the calls that throw");
        }
    }

    static void tell(String what) {
        wrong++;
        System.out.println(what);
    }

    static void end() {
        System.out.println(wrong == 0 ? "all answers are as due" : wrong + " answers are not as due");
        if (wrong != 0) {
            System.exit(1);
        }
    }

    private static void runLine(String name, TimerRows x, String line) {
        int times = 1;
        int by = line.indexOf(" x ");
        String rest = line;
        if (by > 0) {
            times = Integer.parseInt(line.substring(0, by).strip());
            rest = line.substring(by + 3).strip();
        }
        int close = rest.indexOf(')');
        String call = rest.substring(0, close + 1);
        String due = rest.substring(close + 1).strip();
        for (int n = 0; n < times; n++) {
            oneCall(name, x, call, due);
        }
    }

    private static void oneCall(String name, TimerRows x, String call, String due) {
        String before = due.startsWith("throws.") ? seen(x) : "";
        String got = answer(x, call);
        boolean right = due.equals("*") ? !got.startsWith("throws.") : got.equals(due);
        if (!right) {
            tell(name + ": " + call + " answered " + got + ", due is " + due);
        }
        if (due.startsWith("throws.") && !seen(x).equals(before)) {
            tell(name + ": " + call + " throws, but changed something");
        }
    }

    static String answer(TimerRows x, String call) {
        if (call.equals("order()")) {
            return order(x);
        }
        if (call.equals("timers()")) {
            return timers(x);
        }
        int open = call.indexOf('(');
        String name = call.substring(0, open).strip();
        String inside = call.substring(open + 1, call.length() - 1).strip();
        String[] words = inside.isEmpty() ? new String[0] : inside.split(",");
        try {
            Method method = methodOf(name);
            return String.valueOf(method.invoke(x, argumentsOf(method, words)));
        } catch (InvocationTargetException e) {
            return "throws." + e.getCause().getClass().getSimpleName();
        } catch (IllegalAccessException e) {
            return "no access";
        }
    }

    private static Method methodOf(String name) {
        for (Method method : TimerRows.class.getDeclaredMethods()) {
            if (method.getName().equals(name)) {
                return method;
            }
        }
        throw new IllegalStateException("no method " + name);
    }

    private static Object[] argumentsOf(Method method, String[] words) {
        Class<?>[] types = method.getParameterTypes();
        if (types.length != words.length) {
            throw new IllegalStateException("wrong count of arguments for " + method.getName());
        }
        List<Object> arguments = new ArrayList<>();
        for (int i = 0; i < types.length; i++) {
            String word = words[i].strip();
            if (types[i] == int.class) {
                arguments.add(end(word, Integer.MIN_VALUE, Integer.MAX_VALUE).intValue());
            } else if (types[i] == long.class) {
                arguments.add(end(word, Long.MIN_VALUE, Long.MAX_VALUE));
            } else {
                arguments.add(Boolean.parseBoolean(word));
            }
        }
        return arguments.toArray();
    }

    private static Long end(String word, long least, long most) {
        return word.equals("least") ? least : word.equals("most") ? most : Long.parseLong(word);
    }

    private static String order(TimerRows x) {
        StringBuilder s = new StringBuilder();
        for (int i = 0; i < x.of(6); i++) {
            s.append(x.done(i, 0) == 1 ? " t" : " r").append(x.done(i, 1));
        }
        return s.isEmpty() ? "-" : s.substring(1);
    }

    private static String timers(TimerRows x) {
        StringBuilder s = new StringBuilder();
        for (int timer = 0; timer < x.of(2); timer++) {
            if (waits(x, timer)) {
                s.append(' ').append(timer).append('@').append(x.told(timer, 2));
            }
        }
        return s.isEmpty() ? "-" : s.substring(1);
    }

    private static boolean waits(TimerRows x, int timer) {
        try {
            x.told(timer, 0);
            return true;
        } catch (NoSuchElementException e) {
            return false;
        }
    }

    /** All that can be seen of an object by calls that change nothing (or change it and back). */
    static String seen(TimerRows x) {
        StringBuilder s = new StringBuilder();
        for (int what = 0; what <= 6; what++) {
            s.append(x.of(what)).append(' ');
        }
        for (int clock = 0; clock <= 1; clock++) {
            s.append(x.now(clock)).append(' ').append(x.next(clock)).append(' ');
        }
        for (int task = 0; task < 128; task++) {
            s.append(x.load(task, 128)).append(' ');
        }
        for (int timer = 0; timer < x.of(2); timer++) {
            for (int what = 0; what <= 4 && waits(x, timer); what++) {
                s.append(x.told(timer, what)).append(' ');
            }
        }
        for (int i = 0; i < x.of(6); i++) {
            for (int what = 0; what <= 4; what++) {
                s.append(x.done(i, what)).append(' ');
            }
        }
        boolean rowsFirst = x.first(true);
        x.first(rowsFirst);
        return s.append(rowsFirst).toString();
    }

    /** All that an object holds, brought to light: both clocks go on to the end, from now and from all it keeps. */
    private static String goesOn(TimerRows x) {
        StringBuilder s = new StringBuilder(seen(x));
        toTheEnd(x, s);
        for (int place = 0; place < x.of(5); place++) {
            s.append("\nback ").append(x.back(place)).append(' ').append(seen(x));
            toTheEnd(x, s);
        }
        return s.toString();
    }

    private static void toTheEnd(TimerRows x, StringBuilder s) {
        for (int clock = 0; clock <= 1; clock++) {
            s.append("\npass ").append(x.pass(clock, 1_000_000_000_000L)).append(' ').append(seen(x));
        }
    }
}
