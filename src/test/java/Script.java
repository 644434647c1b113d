import java.lang.reflect.InvocationTargetException;
import java.lang.reflect.Method;
import java.util.ArrayList;
import java.util.List;

/**
 * Runs of calls written as text, on a new object each. A line is a call and the answer that is due:
 *
 *   set(0, 5, 10, 3, 2)    0
 *   first(false)           true
 *   done(7, 0)             throws.NoSuchElementException
 *   set(0, least, 1, 0, 0) 1          (least and most: the ends of the argument's type)
 *   40 x row(1, 2)         *          (40 times, any answer but an exception)
 *   order()                r0 t3 t1   (no call of the face: rows and timers done in the last pass, - for none)
 *   timers()               0@7 4@12   (no call of the face: timers that wait, with their times, - for none)
 *
 * A call that throws must leave all that can be seen as it was; every such call is tested for that too. What
 * can't be seen at once is tested at the end: the same run without the calls that throw must leave an object that
 * goes on alike.
 */
final class Script {
    private static int wrong = 0;

    private Script() {
    }

    static void run(String name, String lines) {
        TimerRows x = new TimerRows();
        TimerRows spared = new TimerRows();
        for (String line : lines.split("\n")) {
            if (!line.isBlank()) {
                runLine(name, x, line.strip());
                if (!line.contains("throws.")) {
                    runLine(name + ", without the calls that throw", spared, line.strip());
                }
            }
        }
        if (!Seen.goesOn(x).equals(Seen.goesOn(spared))) {
            tell(name + ": goes on otherwise than without the calls that throw");
        }
    }

    static void tell(String what) {
        wrong++;
        System.out.println(what);
    }

    static void end() {
        System.out.println(wrong == 0 ? "all answers are as due" : wrong + " answers are not as due");
        if (wrong != 0) {
            System.exit(1);
        }
    }

    private static void runLine(String name, TimerRows x, String line) {
        int times = 1;
        int by = line.indexOf(" x ");
        String rest = line;
        if (by > 0) {
            times = Integer.parseInt(line.substring(0, by).strip());
            rest = line.substring(by + 3).strip();
        }
        int close = rest.indexOf(')');
        String call = rest.substring(0, close + 1);
        String due = rest.substring(close + 1).strip();
        for (int n = 0; n < times; n++) {
            oneCall(name, x, call, due);
        }
    }

    private static void oneCall(String name, TimerRows x, String call, String due) {
        String before = due.startsWith("throws.") ? Seen.all(x) : "";
        String got = answer(x, call);
        boolean right = due.equals("*") ? !got.startsWith("throws.") : got.equals(due);
        if (!right) {
            tell(name + ": " + call + " answered " + got + ", due is " + due);
        }
        if (due.startsWith("throws.") && !Seen.all(x).equals(before)) {
            tell(name + ": " + call + " throws, but changed something");
        }
    }

    static String answer(TimerRows x, String call) {
        if (call.equals("order()")) {
            return Seen.order(x);
        }
        if (call.equals("timers()")) {
            return Seen.timers(x);
        }
        int open = call.indexOf('(');
        String name = call.substring(0, open).strip();
        String inside = call.substring(open + 1, call.length() - 1).strip();
        String[] words = inside.isEmpty() ? new String[0] : inside.split(",");
        try {
            Method method = methodOf(name);
            return String.valueOf(method.invoke(x, argumentsOf(method, words)));
        } catch (InvocationTargetException e) {
            return "throws." + e.getCause().getClass().getSimpleName();
        } catch (IllegalAccessException e) {
            return "no access";
        }
    }

    private static Method methodOf(String name) {
        for (Method method : TimerRows.class.getDeclaredMethods()) {
            if (method.getName().equals(name)) {
                return method;
            }
        }
        throw new IllegalStateException("no method " + name);
    }

    private static Object[] argumentsOf(Method method, String[] words) {
        Class<?>[] types = method.getParameterTypes();
        if (types.length != words.length) {
            throw new IllegalStateException("wrong count of arguments for " + method.getName());
        }
        List<Object> arguments = new ArrayList<>();
        for (int i = 0; i < types.length; i++) {
            String word = words[i].strip();
            if (types[i] == int.class) {
                arguments.add(end(word, Integer.MIN_VALUE, Integer.MAX_VALUE).intValue());
            } else if (types[i] == long.class) {
                arguments.add(end(word, Long.MIN_VALUE, Long.MAX_VALUE));
            } else {
                arguments.add(Boolean.parseBoolean(word));
            }
        }
        return arguments.toArray();
    }

    private static Long end(String word, long least, long most) {
        return word.equals("least") ? least : word.equals("most") ? most : Long.parseLong(word);
    }
}
