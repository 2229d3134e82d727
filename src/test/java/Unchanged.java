import java.util.ArrayList;
import java.util.List;

/**
 * Tells whether a call changes a registry: of two objects with the same calls behind them one gets the
 * call and the other does not; then both are asked, in several ways, for all that they hold. The objects
 * live side by side, so this also tells if one knew of the other. It asks with more than 512 calls: that
 * no answer changes then is more than the document promises, but holds.
 */
final class Unchanged {
    private static final int WAYS = 5;

    private final SchemaSubjects x = new SchemaSubjects();
    private final SchemaSubjects twin = new SchemaSubjects();
    private String change = null;

    private Unchanged(List<Calls.Call> before, Calls.Call call) {
        for (Calls.Call c : before) {
            Calls.answer(x, c);
            Calls.answer(twin, c);
        }
        Calls.answer(x, call);
    }

    /** What the two objects answer unlike each other; null if they answer alike. */
    static String changeBy(List<Calls.Call> before, Calls.Call call) {
        for (int way = 0; way < WAYS; way++) {
            Unchanged u = new Unchanged(before, call);
            switch (way) {
                case 0: u.askRecord(); break;
                case 1: u.askVersions(); break;
                case 2: u.askModes(); break;
                case 3: u.askDraft(); break;
                default: u.askDefaults();
            }
            if (u.change != null) {
                return u.change;
            }
        }
        return null;
    }

    private String ask(String name, int... a) {
        String answer = Calls.answer(x, name, a);
        String due = Calls.answer(twin, name, a);
        if (change == null && !answer.equals(due)) {
            change = new Calls.Call(name, a) + " answers " + answer + " then, and " + due + " without it";
        }
        return due;
    }

    /** All versions that are not deleted hard, each as its subject and its number. */
    private List<int[]> kept() {
        List<int[]> all = new ArrayList<>();
        for (int s = 0; s < 6; s++) {
            for (int v = 0; v < 6; v++) {
                if (!ask("isThere", s, v).startsWith("throws.")) {
                    all.add(new int[] {s, v});
                }
            }
        }
        return all;
    }

    private void askRecord() {
        for (int place = 0; place < 21; place++) {
            ask("valueAt", place);
        }
        for (int[] v : kept()) {
            ask("isRecord", v[0], v[1]);
        }
        ask("clear");
    }

    private void askVersions() {
        List<int[]> all = kept();
        for (int s = 0; s < 6; s++) {
            ask("versions", s);
        }
        for (int[] v : all) {
            ask("number", v[0], v[1]);
            ask("length", v[0], v[1]);
            for (int[] w : all) {
                ask("canRead", v[0], v[1], w[0], w[1]);
            }
        }
        ask("discard");
        // From the last one on, for the later ones may refer to those before them.
        for (int hard = 0; hard < 2; hard++) {
            for (int i = all.size() - 1; i >= 0; i--) {
                ask("delete", all.get(i)[0], all.get(i)[1], hard);
            }
        }
    }

    /** The modes, and whether all versions are asked for: what is accepted tells it. */
    private void askModes() {
        for (int type = 0; type < 4; type++) {
            for (int name = 0; name < 10; name++) {
                for (int s = 0; s < 6; s++) {
                    ask("isAccepted", s);
                }
                ask("discard");
                ask("field", name, type, 4, -1);
            }
        }
        for (int s = 0; s < 6; s++) {
            ask("setMode", s, 0, 0);
        }
    }

    /** The draft of a schema: registered wherever there is room, it tells what it is. */
    private void askDraft() {
        List<int[]> all = kept();
        for (int s = 0; s < 6; s++) {
            ask("setMode", s, 0, 0);
        }
        for (int s = 0; s < 6; s++) {
            String version = ask("register", s);
            if (!version.startsWith("throws.")) {
                int v = Integer.parseInt(version);
                ask("number", s, v);
                ask("length", s, v);
                readDefaults(s, v);
                for (int[] w : all) {
                    ask("canRead", s, v, w[0], w[1]);
                    ask("canRead", w[0], w[1], s, v);
                }
            }
        }
        ask("discard");
    }

    // A record of one field that the other has not is read by nothing but defaults.
    private void readDefaults(int s, int v) {
        for (int name = 0; name < 10; name++) {
            ask("discard");
            ask("field", name, 2, 0, -1);
            for (int t = 0; t < 6; t++) {
                String version = ask("register", t);
                if (!version.startsWith("throws.")) {
                    ask("number", t, Integer.parseInt(version));
                    ask("clear");
                    ask("value", 1);
                    ask("read", s, v, t, Integer.parseInt(version));
                    for (int place = 0; place < 5; place++) {
                        ask("valueAt", place);
                    }
                }
            }
        }
    }

    /** The draft's last field, the names it has, and the room that it has for more. */
    private void askDefaults() {
        for (int value : new int[] {4, 3, 2, 1, 0}) {
            ask("byDefault", value);
        }
        for (int name = 0; name < 10; name++) {
            for (int[] v : kept()) {
                ask("field", name, 4, 10 * v[0] + v[1], -1);
            }
            ask("field", name, 0, 0, -1);
        }
        ask("discard");
    }
}
