import java.io.IOException;
import java.lang.reflect.Constructor;
import java.lang.reflect.Field;
import java.lang.reflect.Method;
import java.lang.reflect.Modifier;
import java.nio.file.Files;
import java.nio.file.Path;
import java.util.ArrayList;
import java.util.List;
import java.util.TreeSet;
import java.util.regex.Matcher;
import java.util.regex.Pattern;

/** The public face to the letter, and the rules of LANGUAGE.md that can be seen without reading closely. */
final class FaceTest {
    private static final String I = "IndexOutOfBoundsException";
    private static final String A = "IllegalArgumentException";
    private static final String S = "IllegalStateException";

    private static final String[] FACE = {
        "int feed(int, int, int, int, int) " + S, "int truncate(int) " + A, "int readText() " + A,
        "int runScript() " + A, "int errorCode()", "int errorPosition()", "int setting(int) " + A,
        "int beacon(int, int) " + I + " " + A, "int slots(int, int) " + I + " " + A, "int reckoned(int) " + I,
        "int letter(int, int) " + I, "int heard(int, int) " + I, "boolean knows(int, int) " + I, "float drain()",
        "double knowledge()", "int why(int) " + I, "int whyNot(int, int) " + I, "int dueIn(int) " + I,
        "int hidden(int) " + I, "int hops(int, int) " + I, "int groups()", "int ears(int) " + I, "int earliest()",
        "int window(int) " + I, "int stateIn(int, int) " + I + " " + A, "int energyIn(int, int) " + I + " " + A,
        "int collisionsIn(int) " + A, "int knowsIn(int, int) " + I, "int allKnownIn()", "int outIn(int) " + I,
        "int sendsIn(int) " + I, "int wellIn(int) " + I, "int bestAt(int) " + I, "int bestEvery(int) " + I,
        "int run(int) " + A + " " + S, "int wake(int) " + I + " " + S, "int setEvery(int, int) " + I + " " + A,
        "int setAt(int, int) " + I + " " + A, "int charge(int, int) " + I + " " + A,
        "boolean setNear(int, int, boolean) " + I + " " + A, "int setTries(int) " + A, "int report()",
        "int reportByte(int) " + I, "int undo()", "int save()", "int restore() " + S,
    };

    private FaceTest() {
    }

    public static void main(String[] args) throws IOException {
        members();
        classesInside();
        source();
        Check.end();
    }

    private static String list(Class<?>[] types, String between) {
        List<String> names = new ArrayList<>();
        for (Class<?> type : types) {
            names.add(type.getSimpleName());
        }
        return String.join(between, names);
    }

    private static void members() {
        TreeSet<String> due = new TreeSet<>(List.of(FACE));
        TreeSet<String> got = new TreeSet<>();
        TreeSet<String> open = new TreeSet<>();
        for (Method m : RadioBeacons.class.getDeclaredMethods()) {
            if (Modifier.isPublic(m.getModifiers())) {
                got.add((m.getReturnType().getSimpleName() + " " + m.getName() + "(" + list(m.getParameterTypes(), ", ")
                        + ") " + list(m.getExceptionTypes(), " ")).trim());
                Check.same("not static: " + m.getName(), false, Modifier.isStatic(m.getModifiers()));
            } else if (!Modifier.isPrivate(m.getModifiers())) {
                open.add(m.getName());
            }
        }
        Check.same("the public methods", due, got);
        TreeSet<String> face = namesOfTheFace();
        for (Method m : RadioBeacons.class.getDeclaredMethods()) {
            boolean isPrivate = Modifier.isPrivate(m.getModifiers());
            Check.same("rule 1: no name of the face, " + m, false, isPrivate && face.contains(m.getName()));
        }
        for (Field f : RadioBeacons.class.getDeclaredFields()) {
            if (!Modifier.isPrivate(f.getModifiers())) {
                open.add(f.toString());
            }
        }
        Check.same("no other open members", "[public static final int RadioBeacons.NONE]", open.toString());
        Check.same("NONE", -1, RadioBeacons.NONE);
        Constructor<?>[] made = RadioBeacons.class.getDeclaredConstructors();
        Check.same("one constructor", "public RadioBeacons()", made.length == 1 ? made[0].toString() : "" + made.length);
        Check.same("the class", "public final", Modifier.toString(RadioBeacons.class.getModifiers()));
        Check.same("no package", "", RadioBeacons.class.getPackageName());
    }

    private static TreeSet<String> namesOfTheFace() {
        TreeSet<String> face = new TreeSet<>();
        for (Method m : RadioBeacons.class.getDeclaredMethods()) {
            if (Modifier.isPublic(m.getModifiers())) {
                face.add(m.getName());
            }
        }
        return face;
    }

    private static void classesInside() {
        TreeSet<String> face = namesOfTheFace();
        Class<?>[] inside = RadioBeacons.class.getDeclaredClasses();
        Check.same("rule 11: some twelve classes", true, inside.length < 12);
        for (Class<?> c : inside) {
            Check.same("rule 1: static and not public, " + c, "private static final", Modifier.toString(c.getModifiers()));
            int fields = 0;
            for (Field f : c.getDeclaredFields()) {
                boolean isStatic = Modifier.isStatic(f.getModifiers());
                fields += isStatic ? 0 : 1;
                Check.same("rule 5: " + f, true, !isStatic || Modifier.isFinal(f.getModifiers()));
            }
            Check.same("rule 11: some twenty fields, " + c, true, fields <= 20);
            for (Method m : c.getDeclaredMethods()) {
                Check.same("rule 1: no name of the face, " + m, false, face.contains(m.getName()));
                Check.same("rule 11: at most seven parameters, " + m, true, m.getParameterCount() <= 7);
            }
        }
    }

    private static void source() throws IOException {
        Path path = Path.of("src/main/java/RadioBeacons.java");
        String text = Files.readString(path);
        Check.same("signs 1 to 127 alone", true, text.chars().allMatch(c -> c == '\n' || c >= 32 && c < 127));
        String code = text.replaceAll("(?s)/\\*.*?\\*/", "").replaceAll("//[^\n]*", "");
        String[] ruledOut = {"import", "package", "->", "::", "catch", "try\\s*\\{", "finally", "synchronized", "assert",
            "protected", "instanceof", "Exact\\(", "System\\.", "\"\\s*\\+", "\\+\\s*\"", "Object", "Thread", "volatile"};
        for (String word : ruledOut) {
            Check.same("ruled out: " + word, false, Pattern.compile(word).matcher(code).find());
        }
        Matcher m = Pattern.compile("while \\((.*)\\) \\{").matcher(code);
        while (m.find()) {
            Check.same("rule 9: a bound in " + m.group(1), true, m.group(1).matches("(next|at|slots) < .*"));
        }
        int longest = 0;
        for (String method : code.split("\n    +(?=(private|public|void|int|boolean) )")) {
            longest = Math.max(longest, method.split("\n").length);
        }
        Check.same("rule 11: methods of some sixty lines, " + longest, true, longest <= 60);
    }
}
