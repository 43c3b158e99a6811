import java.io.IOException;
import java.lang.reflect.InvocationTargetException;
import java.lang.reflect.Method;
import java.nio.file.Files;
import java.nio.file.Path;
import java.util.ArrayList;
import java.util.List;
import java.util.TreeSet;
import java.util.regex.Matcher;
import java.util.regex.Pattern;

/** README.md agrees with the class as it stands: its examples are made call by call, from the page itself. */
final class ReadmeTest {
    private static final Pattern BLOCK = Pattern.compile("(?s)```java\n(.*?)```");
    private static final Pattern PUT = Pattern.compile("put\\(x, \"(.*)\"\\);");
    private static final Pattern CALL = Pattern.compile("x\\.(\\w+)\\((.*?)\\); *// (throws \\w+|[^:]+): .+");

    private ReadmeTest() {
    }

    public static void main(String[] args) throws IOException, IllegalAccessException {
        String page = Files.readString(Path.of("README.md"));
        examples(page);
        theMethodThatPuts(page);
        namesOfTheTests(page);
        Check.end();
    }

    // README.md shows this method, and its examples use it: theMethodThatPuts() holds the two side by side
    static void put(RadioBeacons x, String text) {
        for (int from = 0; from < text.length(); from += 20) {
            int[] fours = new int[5];
            for (int k = 0; k < 20; k++) {
                int sign = from + k < text.length() ? text.charAt(from + k) : ' ';
                fours[k / 4] = fours[k / 4] << 8 | sign & 255;
            }
            x.feed(fours[0], fours[1], fours[2], fours[3], fours[4]);
        }
        x.truncate(text.length());
    }

    private static void examples(String page) throws IllegalAccessException {
        int examples = 0;
        Matcher block = BLOCK.matcher(page);
        while (block.find()) {
            if (block.group(1).startsWith("RadioBeacons x = new RadioBeacons();\n")) {
                examples++;
                example(block.group(1));
            }
        }
        Check.same("examples found", 5, examples);
    }

    private static void example(String block) throws IllegalAccessException {
        RadioBeacons x = null;
        for (String line : block.split("\n")) {
            Matcher put = PUT.matcher(line);
            Matcher call = CALL.matcher(line);
            if (line.equals("RadioBeacons x = new RadioBeacons();")) {
                x = new RadioBeacons();
            } else if (put.matches()) {
                put(x, put.group(1));
            } else if (call.matches()) {
                Check.same(line, call.group(3), answer(x, call.group(1), call.group(2)));
            } else {
                Check.same("a remark: " + line, true, line.startsWith("// "));
            }
        }
    }

    private static String answer(RadioBeacons x, String name, String arguments) throws IllegalAccessException {
        List<Object> values = new ArrayList<>();
        for (String argument : arguments.isEmpty() ? new String[0] : arguments.split(", ")) {
            values.add(Integer.decode(argument));
        }
        for (Method method : RadioBeacons.class.getMethods()) {
            if (method.getName().equals(name) && method.getParameterCount() == values.size()) {
                try {
                    return String.valueOf(method.invoke(x, values.toArray()));
                } catch (InvocationTargetException e) {
                    return "throws " + e.getCause().getClass().getSimpleName();
                }
            }
        }
        return "no such call";
    }

    private static void theMethodThatPuts(String page) throws IOException {
        String source = Files.readString(Path.of("src/test/java/ReadmeTest.java"));
        int from = source.indexOf("    static void put(");
        String method = source.substring(from, source.indexOf("\n    }\n", from) + 7).indent(-4);
        Check.same("the method that puts, as it stands here", true, page.contains("```java\n" + method + "```\n"));
    }

    private static void namesOfTheTests(String page) throws IOException {
        TreeSet<String> due = new TreeSet<>();
        try (var files = Files.list(Path.of("src/test/java"))) {
            files.map(file -> file.getFileName().toString()).filter(name -> name.endsWith("Test.java"))
                    .forEach(name -> due.add(name.replace(".java", "")));
        }
        TreeSet<String> got = new TreeSet<>();
        Matcher named = Pattern.compile("`(\\w+Test)`").matcher(page);
        while (named.find()) {
            got.add(named.group(1));
        }
        Check.same("the tests that README.md names", due, got);
    }
}
