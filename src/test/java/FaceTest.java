import java.io.IOException;
import java.lang.reflect.Constructor;
import java.lang.reflect.Field;
import java.lang.reflect.Method;
import java.lang.reflect.Modifier;
import java.util.ArrayList;
import java.util.Arrays;
import java.util.List;
import java.util.Set;
import java.util.TreeSet;

/** The public face is the document's, word for word, and no private method bears a public one's name. */
public final class FaceTest {
    private FaceTest() {
    }

    public static void main(String[] args) throws IOException {
        Face face = new Face();
        theDocument(face);
        theClass();
        theMethods(face);
        theFields(face);
        theClassesInside();
        Script.end();
    }

    private static void theDocument(Face face) {
        List<String> due = new ArrayList<>(face.members());
        due.removeIf(member -> !member.contains("("));
        if (due.size() != 19 || !face.promised().equals(due)) {
            Script.tell("the promises are of " + face.promised() + ", the face is " + due);
        }
    }

    private static void theClass() {
        int modifiers = TimerRows.class.getModifiers();
        if (!Modifier.isPublic(modifiers) || !Modifier.isFinal(modifiers)) {
            Script.tell("the class is not public and final");
        }
        Constructor<?>[] made = TimerRows.class.getDeclaredConstructors();
        if (made.length != 1 || !made[0].toString().equals("public TimerRows()")) {
            Script.tell("the constructors are " + Arrays.toString(made));
        }
    }

    private static void theMethods(Face face) {
        Set<String> open = new TreeSet<>();
        Set<String> openNames = new TreeSet<>();
        Set<String> hiddenNames = new TreeSet<>();
        for (Method method : TimerRows.class.getDeclaredMethods()) {
            if (Modifier.isPrivate(method.getModifiers())) {
                hiddenNames.add(method.getName());
            } else {
                openNames.add(method.getName());
                open.add(method.toString().replace("TimerRows.", "").replace("java.lang.", "")
                        .replace("java.util.", ""));
            }
        }
        Set<String> due = new TreeSet<>(face.calls());
        due.remove("public TimerRows()");
        if (!open.equals(due)) {
            Script.tell("the methods are " + open + ", due are " + due);
        }
        hiddenNames.retainAll(openNames);
        if (!hiddenNames.isEmpty()) {
            Script.tell("private methods that bear a public one's name: " + hiddenNames);
        }
    }

    private static void theFields(Face face) {
        if (!face.members().contains("public static final long NONE = -1L")) {
            Script.tell("the document's face has no NONE of -1");
        }
        for (Field field : TimerRows.class.getDeclaredFields()) {
            int modifiers = field.getModifiers();
            boolean isNone = field.getName().equals("NONE");
            if (!isNone && !Modifier.isPrivate(modifiers)) {
                Script.tell("a field that is not private: " + field);
            }
            if (Modifier.isStatic(modifiers) && !Modifier.isFinal(modifiers)) {
                Script.tell("a static field that is not final: " + field);
            }
            if (isNone && !field.toString().equals("public static final long TimerRows.NONE")) {
                Script.tell("NONE is " + field);
            }
        }
        if (TimerRows.NONE != -1L) {
            Script.tell("NONE is " + TimerRows.NONE);
        }
    }

    private static void theClassesInside() {
        Class<?>[] inside = TimerRows.class.getDeclaredClasses();
        if (inside.length > 12) {
            Script.tell("too many classes inside: " + inside.length);
        }
        for (Class<?> one : inside) {
            int modifiers = one.getModifiers();
            if (Modifier.isPublic(modifiers) || Modifier.isProtected(modifiers) || !Modifier.isStatic(modifiers)) {
                Script.tell("a class inside that is public, protected or not static: " + one);
            }
        }
    }
}
