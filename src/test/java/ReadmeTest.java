import java.io.IOException;
import java.lang.reflect.Method;
import java.lang.reflect.Modifier;
import java.nio.file.Files;
import java.nio.file.Path;
import java.util.ArrayList;
import java.util.List;
import java.util.regex.Matcher;
import java.util.regex.Pattern;

/** What README.md shows a caller holds: the calls answer as they say, the tables have the whole face. */
public final class ReadmeTest {
    private static final Pattern CALL = Pattern.compile("registry\\.(\\w+\\(.*?\\)); +// ([^:]*)(:.*)?");
    private static final Pattern ROW = Pattern.compile("\\| `(\\w+)\\((.*?)\\)`.*?\\|(.*?)\\|(.*)\\|");

    private static int wrong = 0;

    public static void main(String[] args) throws IOException {
        String text = Files.readString(Path.of(args[0]));
        checkCalls(text);
        checkTables(text);
        if (wrong != 0) {
            System.exit(1);
        }
    }

    private static void check(boolean holds, String what) {
        if (!holds) {
            wrong++;
            System.out.println("does not hold: " + what);
        }
    }

    private static void checkCalls(String text) {
        SchemaSubjects x = new SchemaSubjects();
        int begin = text.indexOf("```java\n");
        int end = text.indexOf("```\n", begin + 1);
        check(begin >= 0 && end > begin, "there is an example");
        int calls = 0;
        for (String line : text.substring(Math.max(begin, 0), Math.max(end, 0)).split("\n")) {
            Matcher m = CALL.matcher(line);
            if (m.matches()) {
                calls++;
                String got = Calls.answer(x, Calls.told(m.group(1)));
                check(got.equals(m.group(2).replace("throws ", "throws.")), line + " answers " + got);
            } else {
                check(!line.contains("registry."), line + " tells what it answers");
            }
        }
        check(calls > 0, "the example has calls");
    }

    private static void checkTables(String text) {
        List<String> rows = new ArrayList<>();
        Matcher m = ROW.matcher(text);
        while (m.find()) {
            int takes = m.group(2).isEmpty() ? 0 : m.group(2).split(",").length;
            check(!m.group(3).isBlank(), m.group(1) + " gives something back");
            rows.add(m.group(1) + " " + takes + " " + exceptionsIn(m.group(4)));
        }
        List<String> due = new ArrayList<>();
        for (Method method : SchemaSubjects.class.getDeclaredMethods()) {
            if (Modifier.isPublic(method.getModifiers())) {
                List<String> refuses = new ArrayList<>();
                for (Class<?> c : method.getExceptionTypes()) {
                    refuses.add(c.getSimpleName());
                }
                due.add(method.getName() + " " + method.getParameterCount() + " " + refuses);
            }
        }
        rows.sort(null);
        due.sort(null);
        check(rows.equals(due), "the tables have " + due + ", not " + rows);
    }

    private static List<String> exceptionsIn(String cell) {
        List<String> names = new ArrayList<>();
        Matcher m = Pattern.compile("`(\\w+Exception)`").matcher(cell);
        while (m.find()) {
            names.add(m.group(1));
        }
        return names;
    }
}
