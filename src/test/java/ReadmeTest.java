import java.io.File;
import java.io.IOException;
import java.lang.reflect.Field;
import java.lang.reflect.Method;
import java.lang.reflect.Modifier;
import java.nio.file.Files;
import java.nio.file.Path;
import java.util.Set;
import java.util.TreeSet;
import java.util.regex.Matcher;
import java.util.regex.Pattern;

/**
 * What README.md says holds: its examples answer what stands behind them, its table has each answer below 0 with a
 * call that gives it, its list has each call, and it names the tests that there are.
 */
public final class ReadmeTest {
    private static final Due due = new Due();
    private static final Pattern EXAMPLE = Pattern.compile("judge\\.(\\w+)\\(([^)]*)\\)(?: - (\\d+))?; +// (-?\\d+)(?!\\d).*");
    private static final Pattern TEXT = Pattern.compile("for \\(char letter : \"(.*)\"\\.toCharArray\\(\\)\\) judge\\.type\\(letter\\);");
    private static final Pattern REFUSAL = Pattern.compile("\\| `?(\\w+)`? \\| (-\\d+)[^|]*\\|.*\\|([^|]*)\\|");
    private static final Pattern CALL = Pattern.compile("`(\\w+)\\(([^)`]*)\\)`(?:, (\\d+) times)?");
    private static final Pattern LISTED = Pattern.compile("\\| `(\\w+)\\(([^)`]*)\\)` \\|.*");

    public static void main(String[] args) throws Exception {
        String readme = Files.readString(Path.of("README.md"));
        examples(readme);
        refusals(readme);
        calls(readme);
        tests(readme);
        due.end();
    }

    private static Method method(String name) {
        for (Method m : ZoneJudge.class.getDeclaredMethods()) {
            if (Modifier.isPublic(m.getModifiers()) && m.getName().equals(name)) return m;
        }
        return null;
    }

    private static long call(ZoneJudge judge, String name, String numbers) throws ReflectiveOperationException {
        Method m = method(name);
        String[] told = numbers.isBlank() ? new String[0] : numbers.split(", *");
        if (m == null || m.getParameterCount() != told.length) {
            throw new NoSuchMethodException(name + " with " + told.length);
        }
        Object[] given = new Object[told.length];
        for (int k = 0; k < told.length; k++) {
            boolean isLong = m.getParameterTypes()[k] == long.class;
            int letter = told[k].matches("'.'") ? told[k].charAt(1) : 0;
            if (letter > 0) given[k] = letter;
            else if (isLong) given[k] = Long.parseLong(told[k]);
            else given[k] = Integer.parseInt(told[k]);
        }
        return ((Number) m.invoke(judge, given)).longValue();
    }

    /** Each line of the blocks of Java makes an object, types a text, or is a call with its answer. */
    private static void examples(String readme) throws ReflectiveOperationException {
        Matcher blocks = Pattern.compile("(?s)```java\n(.*?)```").matcher(readme);
        ZoneJudge judge = null;
        int seen = 0;
        while (blocks.find()) {
            for (String line : blocks.group(1).split("\n")) {
                Matcher example = EXAMPLE.matcher(line), text = TEXT.matcher(line);
                if (line.isBlank()) continue;
                if (line.startsWith("ZoneJudge judge = new ZoneJudge();")) {
                    judge = new ZoneJudge();
                } else if (text.matches() && judge != null) {
                    for (char letter : text.group(1).toCharArray()) judge.type(letter);
                } else if (example.matches() && judge != null) {
                    long less = example.group(3) == null ? 0 : Long.parseLong(example.group(3));
                    due.is(line, call(judge, example.group(1), example.group(2)) - less, Long.parseLong(example.group(4)));
                    seen++;
                } else {
                    due.isTrue("an example that can be run: " + line, false);
                }
            }
        }
        due.isTrue("there are examples", seen >= 10);
    }

    /** The table has each constant, its number, and calls on a new object of which the last one answers it. */
    private static void refusals(String readme) throws ReflectiveOperationException {
        Set<String> names = new TreeSet<>();
        for (String line : readme.split("\n")) {
            Matcher row = REFUSAL.matcher(line);
            if (!row.matches()) continue;
            names.add(row.group(1));
            long want = Long.parseLong(row.group(2)), got = 0;
            ZoneJudge judge = new ZoneJudge();
            Matcher calls = CALL.matcher(row.group(3));
            while (calls.find()) {
                int times = calls.group(3) == null ? 1 : Integer.parseInt(calls.group(3));
                for (int k = 0; k < times; k++) got = call(judge, calls.group(1), calls.group(2));
            }
            due.is(line, got, want);
        }
        for (Field f : ZoneJudge.class.getFields()) {
            due.isTrue("README tells " + f.getName(), names.remove(f.getName()));
            due.isTrue("README tells its number: " + f.getName(),
                Pattern.compile("\\| `" + f.getName() + "` \\| " + f.getInt(null) + " \\|").matcher(readme).find());
        }
        due.isTrue("README tells the fault, and no other answer: " + names, names.equals(Set.of("fault")));
    }

    /** The list has each call of the face, with as many numbers as it takes. */
    private static void calls(String readme) {
        Set<String> listed = new TreeSet<>();
        for (String line : readme.split("\n")) {
            Matcher row = LISTED.matcher(line);
            if (!row.matches()) continue;
            Method m = method(row.group(1));
            int numbers = row.group(2).isBlank() ? 0 : row.group(2).split(",").length;
            due.isTrue("a call that there is: " + line, m != null && m.getParameterCount() == numbers);
            due.isTrue("told once: " + line, listed.add(row.group(1)));
        }
        for (Method m : ZoneJudge.class.getDeclaredMethods()) {
            if (Modifier.isPublic(m.getModifiers())) due.isTrue("README tells of " + m, listed.contains(m.getName()));
        }
    }

    private static void tests(String readme) throws IOException {
        File[] files = new File("src/test/java").listFiles();
        due.isTrue("there are tests", files != null && files.length > 0);
        for (File file : files == null ? new File[0] : files) {
            String name = file.getName().replace(".java", "");
            if (name.endsWith("Test")) due.isTrue("README names " + name, readme.contains("`" + name + "`"));
        }
        Matcher named = Pattern.compile("`(\\w+Test)`").matcher(readme);
        while (named.find()) {
            due.isTrue("there is " + named.group(1), Files.exists(Path.of("src/test/java", named.group(1) + ".java")));
        }
        due.isTrue("README tells how to run them", readme.contains(".ci/run") && Files.isExecutable(Path.of(".ci/run")));
    }
}
