import java.util.ArrayList;
import java.util.Arrays;
import java.util.List;
import java.util.Map;
import java.util.Random;
import java.util.TreeMap;

/** Long runs of calls, drawn from a fixed seed: the registry answers each as the model does. */
public final class ModelTest {
    private static final int RUNS = 4000;
    private static final int CALLS = 512;

    private final Random random;
    private final int names;
    private final int types;
    private final int odd;
    private final List<String> written = new ArrayList<>();

    private ModelTest(int run) {
        random = new Random(run);
        names = 2 + random.nextInt(9);
        types = random.nextInt(4);
        odd = 4 + random.nextInt(60);
    }

    public static void main(String[] args) {
        Map<String, Integer> answers = new TreeMap<>();
        for (int run = 0; run < RUNS; run++) {
            if (!new ModelTest(run).agree(answers)) {
                System.exit(1);
            }
        }
        if (args.length > 0) {
            answers.forEach((k, v) -> System.out.println(k + " " + v));
        }
        demandAllKinds(answers);
    }

    // A generator that never gets a call to answer in one of its ways would test nothing there.
    private static void demandAllKinds(Map<String, Integer> answers) {
        String[] kinds = {"field number", "field throws.IllegalArgumentException",
            "field throws.IndexOutOfBoundsException", "field throws.IllegalStateException", "byDefault number",
            "byDefault throws.IllegalArgumentException", "byDefault throws.IllegalStateException",
            "discard number", "isAccepted true", "isAccepted false", "isAccepted throws.IllegalArgumentException",
            "isAccepted throws.IllegalStateException", "register number", "register throws.IllegalArgumentException",
            "register throws.IllegalStateException", "setMode number", "setMode throws.IllegalArgumentException",
            "delete number", "delete throws.IllegalArgumentException", "delete throws.IndexOutOfBoundsException",
            "delete throws.IllegalStateException", "versions number", "versions throws.IllegalArgumentException",
            "number number", "isThere true", "isThere false", "length number", "canRead true", "canRead false",
            "readsAll true", "readsAll false", "readsAll throws.IllegalStateException", "value number",
            "value throws.IllegalStateException", "clear number", "isRecord true", "isRecord false", "read number",
            "read throws.IllegalStateException", "valueAt number", "valueAt throws.IndexOutOfBoundsException"};
        for (String kind : kinds) {
            if (answers.getOrDefault(kind, 0) < 100) {
                System.out.println("too few answers of the kind: " + kind);
                System.exit(1);
            }
        }
    }

    private boolean agree(Map<String, Integer> answers) {
        SchemaSubjects x = new SchemaSubjects();
        Model model = new Model();
        List<String> told = new ArrayList<>();
        while (told.size() < CALLS) {
            for (Object[] next : draw(model)) {
                String name = (String) next[0];
                int[] a = (int[]) next[1];
                String due = model.answer(name, a);
                String got = Calls.answer(x, name, a);
                told.add(name + Arrays.toString(a) + " = " + got);
                answers.merge(name + " " + (due.matches("-?\\d+") ? "number" : due), 1, Integer::sum);
                if (!due.equals(got)) {
                    told.forEach(System.out::println);
                    System.out.println("due is " + due);
                    return false;
                }
                if (told.size() == CALLS) {
                    break;
                }
            }
        }
        return true;
    }

    private static Object[] call(String name, int... a) {
        return new Object[] {name, a};
    }

    private int below(int n) {
        return random.nextInt(n);
    }

    // Now and then an argument far from what is allowed.
    private int maybeOdd(int usual, int bound) {
        if (below(odd) != 0) {
            return usual;
        }
        int[] odds = {-1, bound, bound + 1, -2, Integer.MIN_VALUE, Integer.MAX_VALUE, -10, 100};
        return odds[below(odds.length)];
    }

    private int subject() {
        return maybeOdd(below(types == 0 ? 2 : 6), 6);
    }

    private int[] version(Model model) {
        for (int i = 0; i < 8; i++) {
            int s = below(6);
            if (!model.subjects.get(s).isEmpty()) {
                return new int[] {maybeOdd(s, 6), maybeOdd(below(model.subjects.get(s).size()), 6)};
            }
        }
        return new int[] {subject(), below(2)};
    }

    private Object[] field(Model model) {
        int name = maybeOdd(below(names), 10);
        int alias = below(3) == 0 ? maybeOdd(below(10), 10) : -1;
        int type = types == 1 ? below(4) : types == 2 && below(2) == 0 ? 4 : below(5);
        int detail = maybeOdd(below(4) + 1, 5);
        if (type == 4) {
            int[] v = version(model);
            detail = maybeOdd(v[0] * 10 + v[1], 60);
        }
        return call("field", name, maybeOdd(type, 5), detail, alias);
    }

    private List<Object[]> draw(Model model) {
        List<Object[]> calls = new ArrayList<>();
        int[] v = version(model);
        int[] w = version(model);
        switch (below(14)) {
            case 0: case 1: case 2:
                drawSchema(model, calls);
                break;
            case 3:
                calls.add(below(8) == 0 ? call("discard") : field(model));
                break;
            case 4:
                calls.add(call("setMode", subject(), maybeOdd(below(4), 4), below(2)));
                break;
            case 5:
                calls.add(call("delete", v[0], v[1], below(2)));
                if (below(2) == 0) {
                    calls.add(call("delete", v[0], v[1], below(4) == 0 ? 0 : 1));
                }
                break;
            case 6:
                String[] names = {"number", "isThere", "length", "isRecord"};
                calls.add(call(names[below(4)], v[0], v[1]));
                break;
            case 7:
                calls.add(call("versions", subject()));
                break;
            case 8: case 9:
                calls.add(call("canRead", v[0], v[1], w[0], w[1]));
                calls.add(call("readsAll", v[0], v[1], w[0], w[1]));
                break;
            case 10:
                calls.add(below(6) == 0 ? call("clear") : call("value", number()));
                break;
            case 11:
                calls.add(call("valueAt", maybeOdd(below(8), 20)));
                break;
            default:
                drawRecord(model, v, w, calls);
        }
        return calls;
    }

    private void drawSchema(Model model, List<Object[]> calls) {
        int s = subject();
        if (below(5) == 0) {
            repeatSchema(model, calls);
        } else {
            int fields = 1 + below(5);
            for (int i = 0; i < fields; i++) {
                calls.add(field(model));
                if (below(2) == 0) {
                    calls.add(call("byDefault", below(3) == 0 ? number() : below(3)));
                }
            }
        }
        calls.add(call("isAccepted", s));
        calls.add(call("register", s));
        if (below(3) != 0) {
            calls.add(call("discard"));
        }
    }

    private void repeatSchema(Model model, List<Object[]> calls) {
        if (model.numbers.isEmpty()) {
            return;
        }
        for (Model.F f : model.numbers.get(below(model.numbers.size()))) {
            calls.add(call("field", f.name(), f.type(), f.type() < 3 ? below(99) : f.detail(), f.alias()));
            if (f.byDefault() != null) {
                calls.add(call("byDefault", f.byDefault()));
            }
        }
    }

    private void drawRecord(Model model, int[] v, int[] w, List<Object[]> calls) {
        calls.add(call("clear"));
        int many = below(4) == 0 ? below(22) : lengthOr(model, w, below(6));
        for (int i = 0; i < many; i++) {
            calls.add(call("value", below(12) == 0 ? number() : below(2)));
        }
        calls.add(call("isRecord", w[0], w[1]));
        calls.add(call("read", v[0], v[1], w[0], w[1]));
        for (int i = 0; i < 3; i++) {
            calls.add(call("valueAt", below(6)));
        }
        calls.add(call("isRecord", v[0], v[1]));
    }

    private int lengthOr(Model model, int[] w, int other) {
        String length = model.answer("length", w);
        return length.startsWith("throws") ? other : Integer.parseInt(length);
    }

    private int number() {
        int[] numbers = {-1, 0, 1, 2, 3, 4, 5, Integer.MIN_VALUE, Integer.MAX_VALUE, -77};
        return numbers[below(numbers.length)];
    }
}
