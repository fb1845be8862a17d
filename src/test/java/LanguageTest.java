import java.io.IOException;
import java.lang.management.ManagementFactory;
import java.lang.reflect.Constructor;
import java.lang.reflect.Field;
import java.lang.reflect.Method;
import java.lang.reflect.Modifier;
import java.nio.file.Files;
import java.nio.file.Path;
import java.util.Arrays;
import java.util.TreeSet;
import java.util.regex.Pattern;

/** The public face, some rules of LANGUAGE.md that a program can look at, and the room that calls take. */
public final class LanguageTest {
    private static final String[] FACE = {
        "code(int) throws IndexOutOfBoundsException : int",
        "digits(int) throws IndexOutOfBoundsException : long",
        "exponent(int) throws IndexOutOfBoundsException : int",
        "mode(int,int) throws IllegalArgumentException : void",
        "model(int) throws IllegalStateException,IllegalArgumentException : void",
        "out(int) throws IndexOutOfBoundsException : int",
        "press(long) throws IllegalStateException : int",
        "run(int) throws IllegalArgumentException : int",
        "shown(int) throws IllegalArgumentException : long",
        "solve(int) throws IllegalStateException,UnsupportedOperationException,IllegalArgumentException : int",
        "state(int) throws  : int",
        "stop() throws  : boolean",
        "store(int,long) throws IllegalStateException,IndexOutOfBoundsException : void",
        "translate() throws  : int",
        "type(long) throws  : int",
        "undo() throws IllegalStateException : boolean",
        "wipe() throws  : int",
    };

    private static final String[] FORBIDDEN = {
        "\\bimport\\b", "\\bpackage\\b", "->", "::", "\\btry\\b", "\\bcatch\\b", "\\bfinally\\b",
        "\\bsynchronized\\b", "\\bassert\\b", "Exact\\(", "\\bSystem\\b", "\\bThread\\b", "\\bhashCode\\b",
        "\\btoString\\b", "\\bequals\\b", "\\bdouble\\b", "\\bfloat\\b", "static \\{", "\\bprotected\\b"
    };

    private LanguageTest() {
    }

    public static void main(String[] args) throws IOException {
        face();
        classesInside();
        source();
        roomOfCalls();
        Checks.end("LanguageTest");
    }

    private static void face() {
        TreeSet<String> seen = new TreeSet<>();
        TreeSet<String> hidden = new TreeSet<>();
        for (Method method : TwinEntry.class.getDeclaredMethods()) {
            if (Modifier.isPublic(method.getModifiers())) {
                seen.add(method.getName() + names(method.getParameterTypes(), "(", ") throws ")
                    + names(method.getExceptionTypes(), "", " : ") + method.getReturnType());
            } else {
                Checks.due(method.getName() + " is private", Modifier.isPrivate(method.getModifiers()), true);
                hidden.add(method.getName());
            }
        }
        Checks.due("the face", seen, new TreeSet<>(Arrays.asList(FACE)));
        for (String line : FACE) {
            String name = line.substring(0, line.indexOf('('));
            Checks.due("a private method named " + name, hidden.contains(name), false);
        }
        for (Constructor<?> constructor : TwinEntry.class.getDeclaredConstructors()) {
            Checks.due("the constructor", constructor.toString(), "public TwinEntry()");
        }
        Checks.due("final", Modifier.isFinal(TwinEntry.class.getModifiers()), true);
    }

    private static String names(Class<?>[] types, String before, String behind) {
        StringBuilder names = new StringBuilder(before);
        for (int i = 0; i < types.length; i++) {
            names.append(i == 0 ? "" : ",").append(types[i].getSimpleName());
        }
        return names.append(behind).toString();
    }

    private static void classesInside() {
        fieldsOf(TwinEntry.class);
        Class<?>[] inside = TwinEntry.class.getDeclaredClasses();
        Checks.due("at most twelve classes", inside.length <= 11, true);
        for (Class<?> one : inside) {
            Checks.due(one + " is static", Modifier.isStatic(one.getModifiers()), true);
            Checks.due(one + " is not public", Modifier.isPublic(one.getModifiers()), false);
            fieldsOf(one);
            for (Method method : one.getDeclaredMethods()) {
                Checks.due(method + " has few parameters", method.getParameterCount() <= 7, true);
            }
        }
    }

    private static void fieldsOf(Class<?> one) {
        int own = 0;
        for (Field field : one.getDeclaredFields()) {
            if (Modifier.isStatic(field.getModifiers())) {
                Checks.due(field + " is final", Modifier.isFinal(field.getModifiers()), true);
            } else {
                own++;
            }
            if (one == TwinEntry.class) {
                Checks.due(field + " is private", Modifier.isPrivate(field.getModifiers()), true);
            }
        }
        Checks.due(one + " has at most twenty fields", own <= 20, true);
    }

    private static void source() throws IOException {
        String source = Files.readString(Path.of("src/main/java/TwinEntry.java"));
        String code = source.replaceAll("(?s)/\\*.*?\\*/", "").replaceAll("//.*", "");
        for (String word : FORBIDDEN) {
            Checks.due("the source has " + word, Pattern.compile(word).matcher(code).find(), false);
        }
        Checks.due("plain characters", source.chars().allMatch(c -> c == '\n' || (c >= 32 && c < 127)), true);
        int length = 0;
        for (String line : source.split("\n")) {
            boolean header = line.matches(" {4}( {4})?[a-zA-Z].*\\{") && !line.contains(" class ");
            length = header ? 0 : length + 1;
            if (line.matches(" {4}( {4})?\\}")) {
                Checks.due("a method is short that ends with line " + line, length <= 60, true);
            }
        }
    }

    /** All calls of a run share one room: calls make no objects. */
    private static void roomOfCalls() {
        dearRun();
        dearRun();
        com.sun.management.ThreadMXBean threads =
            (com.sun.management.ThreadMXBean) ManagementFactory.getThreadMXBean();
        long thread = Thread.currentThread().getId();
        threads.getThreadAllocatedBytes(thread);
        long before = threads.getThreadAllocatedBytes(thread);
        dearRun();
        long taken = threads.getThreadAllocatedBytes(thread) - before;
        Checks.due("an object and its calls take little room, not " + taken + " bytes", taken < 20000, true);
    }

    private static void dearRun() {
        TwinEntry t = new TwinEntry();
        t.store(0, 0x8853512F333D3180L);
        for (int i = 0; i < 60; i++) {
            t.press(0x3D352E3231L);
            t.press(0x90L);
            t.run(500);
            t.stop();
            t.solve(0);
            t.run(500);
            t.stop();
            t.type(0x332A322B31L);
            t.translate();
            t.wipe();
            t.shown(1);
            t.undo();
        }
        t.model(1);
        for (int i = 0; i < 60; i++) {
            t.press(0x3D332A322B3128L);
        }
    }
}
