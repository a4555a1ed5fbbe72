import java.lang.reflect.Constructor;
import java.lang.reflect.Field;
import java.lang.reflect.Method;
import java.lang.reflect.Modifier;
import java.nio.file.Files;
import java.nio.file.Path;
import java.util.Set;
import java.util.TreeSet;
import java.util.regex.Matcher;
import java.util.regex.Pattern;

/** The face of the class is the document's and no other, and the program keeps to the language's words. */
public final class FaceTest {
    private static final String[] METHODS = {
        "rule int int", "addTask int int", "set int int int", "putFault int int int int int", "put long", "wipe",
        "position", "load", "run int", "runToReset int", "kick", "reset", "powerCycle", "state int", "task int int",
        "record int int", "clear int", "forecast int", "worstHang int int int int", "greatestKick int", "save int",
        "restore int"};
    private static final String[] CONSTANTS = {
        "NO_SUCH=-1", "BAD_VALUE=-2", "BAD_TEXT=-3", "TOO_MANY=-4", "NOT_POSSIBLE=-5", "NONE=-6",
        "OPEN=0", "CLOSE=1", "PERIOD=2", "KICK=3", "GRACE=4", "BOOT=5", "STABLE=6", "ATTEMPTS=7",
        "EVERY=0", "DURATION=1", "OFFSET=2", "CYCLE=3", "LEAST=4", "MOST=5", "TOLERANCE=6", "DEADLINE=7",
        "NO_FAULT=0", "HANG=1", "SLOW=2", "SKIP=3", "TWICE=4", "CRASH=5",
        "BOOTING=0", "RUNNING=1", "SAFE=2", "EARLY=1", "TIMEOUT=2", "CRASHED=3", "COMMAND=4"};
    private static final String[] FORBIDDEN = {
        "throw", "throws", "try", "catch", "synchronized", "assert", "import", "package", "protected", "volatile",
        "->", "::", "Exact", "System\\.out", "equals", "hashCode", "toString"};

    private static int wrong = 0;

    private static void due(String what, Object got, Object want) {
        if (!got.equals(want)) {
            wrong++;
            System.out.println(what + " is " + got + ", due is " + want);
        }
    }

    public static void main(String[] arguments) throws Exception {
        Class<?> face = WatchdogBoard.class;
        due("modifiers of the class", face.getModifiers(), Modifier.PUBLIC | Modifier.FINAL);
        constructors(face);
        methods(face);
        constants(face);
        classesInside(face);
        words();
        System.out.println(wrong == 0 ? "the face is the document's" : wrong + " faults in the face");
        if (wrong != 0) {
            System.exit(1);
        }
    }

    private static void constructors(Class<?> face) {
        due("number of constructors", face.getDeclaredConstructors().length, 1);
        for (Constructor<?> constructor : face.getDeclaredConstructors()) {
            due("constructor", constructor.toString(), "public WatchdogBoard()");
        }
    }

    private static void methods(Class<?> face) {
        Set<String> seen = new TreeSet<>();
        for (Method method : face.getDeclaredMethods()) {
            if (Modifier.isPrivate(method.getModifiers())) {
                continue;
            }
            StringBuilder text = new StringBuilder(method.getName());
            for (Class<?> type : method.getParameterTypes()) {
                text.append(' ').append(type.getName());
            }
            seen.add(text.toString());
            due("modifiers of " + text, method.getModifiers(), Modifier.PUBLIC);
            due("type of " + text, method.getReturnType(), int.class);
        }
        due("methods", seen, new TreeSet<>(Set.of(METHODS)));
    }

    private static void constants(Class<?> face) throws IllegalAccessException {
        Set<String> seen = new TreeSet<>();
        for (Field field : face.getDeclaredFields()) {
            if (Modifier.isStatic(field.getModifiers())) {
                due("final " + field.getName(), Modifier.isFinal(field.getModifiers()), true);
            }
            if (Modifier.isPrivate(field.getModifiers())) {
                continue;
            }
            due("modifiers of " + field.getName(), field.getModifiers(),
                    Modifier.PUBLIC | Modifier.STATIC | Modifier.FINAL);
            due("type of " + field.getName(), field.getType(), int.class);
            seen.add(field.getName() + "=" + field.getInt(null));
        }
        due("constants", seen, new TreeSet<>(Set.of(CONSTANTS)));
    }

    private static void classesInside(Class<?> face) {
        Set<String> names = new TreeSet<>();
        for (String method : METHODS) {
            names.add(method.split(" ")[0]);
        }
        for (Class<?> inside : face.getDeclaredClasses()) {
            due("static " + inside, Modifier.isStatic(inside.getModifiers()), true);
            due("private " + inside, Modifier.isPrivate(inside.getModifiers()), true);
            for (Method method : inside.getDeclaredMethods()) {
                due("public name of " + method, names.contains(method.getName()), false);
            }
        }
        for (Method method : face.getDeclaredMethods()) {
            if (Modifier.isPrivate(method.getModifiers())) {
                due("public name of " + method, names.contains(method.getName()), false);
            }
        }
    }

    private static void words() throws Exception {
        String text = Files.readString(Path.of("src/main/java/WatchdogBoard.java"));
        String code = text.replaceAll("(?s)/\\*.*?\\*/", " ").replaceAll("//[^\n]*", " ");
        for (String word : FORBIDDEN) {
            String pattern = Character.isLetter(word.charAt(0)) ? "\\b" + word + "\\b" : word;
            Matcher matcher = Pattern.compile(pattern).matcher(code);
            due("use of " + word, matcher.find(), false);
        }
    }
}
