import java.io.IOException;
import java.nio.file.Files;
import java.nio.file.Path;
import java.util.ArrayList;
import java.util.List;

/**
 * Carries out the runs of calls in text files. A line "new: .." begins a run on a new object and tells
 * what it tries; the other lines are calls with the answers that are due, as "field(0, 0, 0, -1) = 1",
 * with ; between calls on one line; # begins a comment. Of each call that is refused, or that only asks,
 * it is also tried that nothing has changed by it.
 */
public final class RunsTest {
    private static int wrong = 0;
    private static int runs = 0;

    private final String place;
    private final List<Calls.Call> calls = new ArrayList<>();
    private final List<String> due = new ArrayList<>();
    private final List<Integer> lines = new ArrayList<>();

    private RunsTest(String place) {
        this.place = place;
    }

    public static void main(String[] args) throws IOException {
        for (String file : args) {
            RunsTest run = null;
            List<String> lines = Files.readAllLines(Path.of(file));
            for (int i = 0; i < lines.size(); i++) {
                String line = lines.get(i).replaceAll("#.*", "").trim();
                if (line.startsWith("new:")) {
                    carryOut(run);
                    run = new RunsTest(file + ": " + line.substring(4).trim());
                } else if (!line.isEmpty()) {
                    run.add(line, i + 1);
                }
            }
            carryOut(run);
        }
        if (runs == 0) {
            System.out.println("no runs were told");
        }
        if (wrong != 0 || runs == 0) {
            System.exit(1);
        }
    }

    private void add(String line, int number) {
        for (String told : line.split(";")) {
            int equals = told.lastIndexOf('=');
            calls.add(Calls.told(told.substring(0, equals)));
            due.add(told.substring(equals + 1).trim());
            lines.add(number);
        }
    }

    private static void carryOut(RunsTest run) {
        if (run == null) {
            return;
        }
        runs++;
        // An object is promised nothing after its 512th call.
        if (run.calls.isEmpty() || run.calls.size() > 512) {
            wrong++;
            System.out.println(run.place + ": it has no calls, or more than 512");
        } else if (run.answersAreDue()) {
            run.demandUnchanged();
        }
    }

    private boolean answersAreDue() {
        SchemaSubjects x = new SchemaSubjects();
        for (int i = 0; i < calls.size(); i++) {
            String got = Calls.answer(x, calls.get(i));
            if (!got.equals(due.get(i))) {
                complain(i, " answered " + got + ", due is " + due.get(i));
                return false;
            }
        }
        return true;
    }

    private void demandUnchanged() {
        for (int i = 0; i < calls.size(); i++) {
            if (due.get(i).startsWith("throws.") || Calls.ASKING.contains(calls.get(i).name())) {
                String change = Unchanged.changeBy(calls.subList(0, i), calls.get(i));
                if (change != null) {
                    complain(i, " has changed something: " + change);
                    return;
                }
            }
        }
    }

    private void complain(int i, String what) {
        wrong++;
        System.out.println(place + ", line " + lines.get(i) + ": " + calls.get(i) + what);
    }
}
