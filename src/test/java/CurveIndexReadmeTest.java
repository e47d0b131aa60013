import java.io.IOException;
import java.lang.reflect.Method;
import java.lang.reflect.Modifier;
import java.nio.file.Files;
import java.nio.file.Path;
import java.util.ArrayList;
import java.util.Arrays;
import java.util.List;
import java.util.Set;
import java.util.TreeSet;
import java.util.regex.Matcher;
import java.util.regex.Pattern;

/** What README.md shows of the use of the class: each call is made, and must answer what stands behind it. */
public final class CurveIndexReadmeTest {
    private static final String FIRST_LINE = "CurveIndex index = new CurveIndex();";

    /** As in: index.at(8, 5);  // 30: and some words */
    private static final Pattern CALL_AND_ANSWER =
        Pattern.compile("index\\.(\\w+)\\(([-0-9, ]*)\\); +// (true|false|NONE|-?[0-9]+)(: .*)?");

    private static int calls = 0;
    private static int wrong = 0;

    public static void main(String[] args) throws IOException, ReflectiveOperationException {
        List<String> example = example(Files.readAllLines(Path.of("README.md")));
        if (example.isEmpty() || !example.get(0).equals(FIRST_LINE)) {
            complain("the example is there and begins with " + FIRST_LINE);
        } else {
            runExample(example);
        }
        System.out.println(calls + " calls, " + wrong + " wrong");
        if (wrong != 0) {
            System.exit(1);
        }
    }

    private static void complain(String words) {
        wrong++;
        System.out.println("README.md: " + words);
    }

    /** The lines of its Java blocks, without the empty ones. */
    private static List<String> example(List<String> lines) {
        List<String> example = new ArrayList<>();
        boolean isInside = false;
        for (String line : lines) {
            if (line.startsWith("```")) {
                isInside = line.equals("```java");
            } else if (isInside && !line.isBlank()) {
                example.add(line);
            }
        }
        return example;
    }

    private static void runExample(List<String> example) throws ReflectiveOperationException {
        CurveIndex index = new CurveIndex();
        Set<String> shown = new TreeSet<>();
        for (String line : example.subList(1, example.size())) {
            Matcher parts = CALL_AND_ANSWER.matcher(line);
            if (parts.matches()) {
                shown.add(parts.group(1));
                dueCall(index, line, parts);
            } else {
                complain("not a call with its answer: " + line);
            }
        }
        if (!shown.equals(namesOfTheFace())) {
            complain("shows " + shown + " of " + namesOfTheFace());
        }
        if (calls > 512) {
            complain("an object is used for at most 512 calls");
        }
    }

    private static void dueCall(CurveIndex index, String line, Matcher parts) throws ReflectiveOperationException {
        Object[] arguments = integers(parts.group(2));
        Class<?>[] types = new Class<?>[arguments.length];
        Arrays.fill(types, int.class);
        Object got = CurveIndex.class.getMethod(parts.group(1), types).invoke(index, arguments);
        String want = parts.group(3).equals("NONE") ? String.valueOf(CurveIndex.NONE) : parts.group(3);
        calls++;
        if (!String.valueOf(got).equals(want)) {
            complain(line + " answered " + got);
        }
    }

    private static Object[] integers(String list) {
        List<Integer> integers = new ArrayList<>();
        for (String number : list.split(",")) {
            if (!number.isBlank()) {
                integers.add(Integer.valueOf(number.strip()));
            }
        }
        return integers.toArray();
    }

    private static Set<String> namesOfTheFace() {
        Set<String> names = new TreeSet<>();
        for (Method method : CurveIndex.class.getDeclaredMethods()) {
            if (Modifier.isPublic(method.getModifiers())) {
                names.add(method.getName());
            }
        }
        return names;
    }
}
