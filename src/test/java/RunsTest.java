import java.io.IOException;
import java.nio.file.Files;
import java.nio.file.Path;
import java.util.List;

/**
 * Carries out the runs of calls in a text file. A line "new: .." begins a run on a new object; the
 * other lines are calls with the answers that are due, as "field(0, 0, 0, -1) = 1"; # begins a comment.
 */
public final class RunsTest {
    public static void main(String[] args) throws IOException {
        int wrong = 0;
        int calls = 0;
        for (String file : args) {
            SchemaSubjects x = null;
            List<String> lines = Files.readAllLines(Path.of(file));
            for (int i = 0; i < lines.size(); i++) {
                String line = lines.get(i).replaceAll("#.*", "").trim();
                if (line.startsWith("new:")) {
                    x = new SchemaSubjects();
                } else if (!line.isEmpty()) {
                    calls++;
                    int equals = line.lastIndexOf('=');
                    String call = line.substring(0, equals).trim();
                    String due = line.substring(equals + 1).trim();
                    String got = Calls.answer(x, call);
                    if (!got.equals(due)) {
                        wrong++;
                        System.out.println(file + ":" + (i + 1) + ": " + call + " answered " + got + ", due is " + due);
                    }
                }
            }
        }
        if (calls == 0) {
            System.out.println("no calls were told");
        }
        if (wrong != 0 || calls == 0) {
            System.exit(1);
        }
    }
}
