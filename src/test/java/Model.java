import java.util.ArrayList;
import java.util.List;

/** The document told once more, in another way: schemas are lists of values, records are trees. */
final class Model {
    record F(int name, int type, int detail, int alias, Integer byDefault) {
    }

    static final class Ver {
        final List<F> schema;
        boolean there = true;
        boolean gone = false;

        Ver(List<F> schema) {
            this.schema = schema;
        }
    }

    static final class CannotRead extends Exception {
        private static final long serialVersionUID = 1L;
    }

    final List<List<Ver>> subjects = new ArrayList<>();
    final int[] modes = new int[6];
    final boolean[] alls = new boolean[6];
    final List<List<F>> numbers = new ArrayList<>();
    final List<F> draft = new ArrayList<>();
    List<Integer> row = new ArrayList<>();

    Model() {
        for (int i = 0; i < 6; i++) {
            subjects.add(new ArrayList<>());
        }
    }

    String answer(String name, int[] a) {
        try {
            return call(name, a);
        } catch (IllegalArgumentException | IndexOutOfBoundsException | IllegalStateException e) {
            return "throws." + e.getClass().getSimpleName();
        }
    }

    private String call(String name, int[] a) {
        switch (name) {
            case "field": return "" + field(a[0], a[1], a[2], a[3]);
            case "byDefault": return "" + byDefault(a[0]);
            case "discard": {
                int n = draft.size();
                draft.clear();
                return "" + n;
            }
            case "isAccepted": return "" + isAccepted(a[0]);
            case "register": return "" + register(a[0]);
            case "setMode": return "" + setMode(a[0], a[1], a[2] != 0);
            case "delete": return "" + delete(a[0], a[1], a[2] != 0);
            case "versions":
                subject(a[0]);
                return "" + subjects.get(a[0]).size();
            case "number": return "" + numbers.indexOf(version(a[0], a[1]).schema);
            case "isThere": return "" + version(a[0], a[1]).there;
            case "length": return "" + lengthOf(version(a[0], a[1]).schema);
            case "canRead":
                both(a[0], a[2]);
                return "" + canRead(version(a[0], a[1]).schema, version(a[2], a[3]).schema);
            case "readsAll": return "" + readsAll(a);
            case "value":
                state(row.size() < 20);
                row.add(a[0]);
                return "" + row.size();
            case "clear": {
                int n = row.size();
                row.clear();
                return "" + n;
            }
            case "isRecord": return "" + isRecord(version(a[0], a[1]).schema);
            case "read": return "" + read(a);
            case "valueAt":
                index(a[0] >= 0 && a[0] < row.size());
                return "" + row.get(a[0]);
            default: throw new Error(name);
        }
    }

    private static void argument(boolean holds) {
        if (!holds) {
            throw new IllegalArgumentException();
        }
    }

    private static void index(boolean holds) {
        if (!holds) {
            throw new IndexOutOfBoundsException();
        }
    }

    private static void state(boolean holds) {
        if (!holds) {
            throw new IllegalStateException();
        }
    }

    private static void subject(int s) {
        argument(s >= 0 && s <= 5);
    }

    private static void both(int s, int t) {
        subject(s);
        subject(t);
    }

    private Ver version(int s, int v) {
        subject(s);
        index(v >= 0 && v < subjects.get(s).size() && !subjects.get(s).get(v).gone);
        return subjects.get(s).get(v);
    }

    private List<F> referred(F f) {
        return subjects.get(f.detail / 10).get(f.detail % 10).schema;
    }

    private int lengthOf(List<F> schema) {
        return schema.stream().mapToInt(f -> f.type == 4 ? lengthOf(referred(f)) : 1).sum();
    }

    private int field(int name, int type, int detail, int alias) {
        argument(0 <= name && name <= 9 && 0 <= type && type <= 4 && -1 <= alias && alias <= 9 && alias != name);
        argument(type != 3 || 1 <= detail && detail <= 4);
        if (type == 4) {
            index(detail >= 0 && detail < 60 && detail % 10 < subjects.get(detail / 10).size()
                    && subjects.get(detail / 10).get(detail % 10).there);
        }
        F f = new F(name, type, type >= 3 ? detail : 0, alias, null);
        state(draft.size() < 5 && draft.stream().noneMatch(g -> g.name == name));
        List<F> longer = new ArrayList<>(draft);
        longer.add(f);
        state(lengthOf(longer) <= 20);
        draft.add(f);
        return draft.size();
    }

    private static boolean isValue(F f, int v) {
        return f.type < 2 || v >= 0 && v < (f.type == 2 ? 2 : f.detail);
    }

    private int byDefault(int v) {
        state(!draft.isEmpty());
        F f = draft.get(draft.size() - 1);
        state(f.type != 4);
        argument(isValue(f, v));
        draft.set(draft.size() - 1, new F(f.name, f.type, f.detail, f.alias, v));
        return f.name;
    }

    private boolean isAccepted(int s) {
        subject(s);
        state(!draft.isEmpty());
        List<Ver> asked = new ArrayList<>();
        for (Ver v : subjects.get(s)) {
            if (v.there) {
                if (!alls[s]) {
                    asked.clear();
                }
                asked.add(v);
            }
        }
        for (Ver v : asked) {
            if (modes[s] % 2 == 1 && !canRead(draft, v.schema) || modes[s] / 2 == 1 && !canRead(v.schema, draft)) {
                return false;
            }
        }
        return true;
    }

    private int register(int s) {
        boolean accepted = isAccepted(s);
        List<Ver> history = subjects.get(s);
        for (int i = 0; i < history.size(); i++) {
            if (history.get(i).there && history.get(i).schema.equals(draft)) {
                draft.clear();
                return i;
            }
        }
        state(accepted && history.size() < 6);
        history.add(new Ver(List.copyOf(draft)));
        if (!numbers.contains(draft)) {
            numbers.add(List.copyOf(draft));
        }
        draft.clear();
        return history.size() - 1;
    }

    private int setMode(int s, int mode, boolean all) {
        subject(s);
        argument(mode >= 0 && mode <= 3);
        int before = modes[s];
        modes[s] = mode;
        alls[s] = all;
        return before;
    }

    private long delete(int s, int v, boolean hard) {
        Ver old = version(s, v);
        state(hard != old.there);
        if (hard) {
            List<List<F>> schemas = new ArrayList<>();
            schemas.add(draft);
            subjects.forEach(h -> h.stream().filter(k -> !k.gone).forEach(k -> schemas.add(k.schema)));
            state(schemas.stream().noneMatch(c -> c.stream().anyMatch(f -> f.type == 4 && f.detail == 10 * s + v)));
            old.gone = true;
        }
        old.there = false;
        return subjects.get(s).stream().filter(k -> k.there).count();
    }

    private static F source(F f, List<F> writer) {
        for (int wanted : new int[] {f.name, f.alias}) {
            for (F g : writer) {
                if (g.name == wanted) {
                    return g;
                }
            }
        }
        return null;
    }

    private boolean canRead(List<F> reader, List<F> writer) {
        return reader.stream().allMatch(f -> {
            F g = source(f, writer);
            if (g == null) {
                return f.byDefault != null;
            }
            switch (f.type) {
                case 1: return g.type <= 1;
                case 3: return g.type == 3 && (f.detail >= g.detail || f.byDefault != null);
                case 4: return g.type == 4 && canRead(referred(f), referred(g));
                default: return g.type == f.type;
            }
        });
    }

    // A record is a list with an Integer or a record for each field.
    private List<List<Object>> small(List<F> schema) {
        List<List<Object>> all = new ArrayList<>();
        all.add(new ArrayList<>());
        for (F f : schema) {
            List<Object> choices = new ArrayList<>();
            if (f.type == 4) {
                choices.addAll(small(referred(f)));
            } else {
                for (int i = 0; i < (f.type == 2 ? 2 : f.type == 3 ? f.detail : 1); i++) {
                    choices.add(i);
                }
            }
            List<List<Object>> more = new ArrayList<>();
            for (List<Object> begun : all) {
                for (Object choice : choices) {
                    List<Object> longer = new ArrayList<>(begun);
                    longer.add(choice);
                    more.add(longer);
                }
            }
            all = more;
            state(all.size() <= 300);
        }
        return all;
    }

    private List<Object> readTree(List<F> reader, List<F> writer, List<Object> tree) throws CannotRead {
        List<Object> result = new ArrayList<>();
        for (F f : reader) {
            F g = source(f, writer);
            Object o = g == null ? null : tree.get(writer.indexOf(g));
            if (g == null) {
                result.add(demanded(f.byDefault));
            } else if (f.type != g.type && !(f.type == 1 && g.type == 0)) {
                throw new CannotRead();
            } else if (f.type == 4) {
                @SuppressWarnings("unchecked")
                List<Object> inner = (List<Object>) o;
                result.add(readTree(referred(f), referred(g), inner));
            } else if (f.type == 3 && (Integer) o >= f.detail) {
                result.add(demanded(f.byDefault));
            } else {
                result.add(o);
            }
        }
        return result;
    }

    private static Object demanded(Integer byDefault) throws CannotRead {
        if (byDefault == null) {
            throw new CannotRead();
        }
        return byDefault;
    }

    private boolean readsAll(int[] a) {
        both(a[0], a[2]);
        List<F> reader = version(a[0], a[1]).schema;
        List<F> writer = version(a[2], a[3]).schema;
        try {
            for (List<Object> tree : small(writer)) {
                readTree(reader, writer, tree);
            }
            return true;
        } catch (CannotRead e) {
            return false;
        }
    }

    private List<Object> tree(List<F> schema, List<Integer> rest) {
        List<Object> tree = new ArrayList<>();
        for (F f : schema) {
            tree.add(f.type == 4 ? tree(referred(f), rest) : rest.remove(0));
        }
        return tree;
    }

    private void flatten(Object tree, List<Integer> into) {
        if (tree instanceof Integer) {
            into.add((Integer) tree);
        } else {
            ((List<?>) tree).forEach(o -> flatten(o, into));
        }
    }

    private boolean isTree(List<F> schema, List<Object> tree) {
        for (int i = 0; i < schema.size(); i++) {
            F f = schema.get(i);
            if (f.type == 4) {
                @SuppressWarnings("unchecked")
                List<Object> inner = (List<Object>) tree.get(i);
                if (!isTree(referred(f), inner)) {
                    return false;
                }
            } else if (!isValue(f, (Integer) tree.get(i))) {
                return false;
            }
        }
        return true;
    }

    private boolean isRecord(List<F> schema) {
        return row.size() == lengthOf(schema) && isTree(schema, tree(schema, new ArrayList<>(row)));
    }

    private int read(int[] a) {
        both(a[0], a[2]);
        List<F> reader = version(a[0], a[1]).schema;
        List<F> writer = version(a[2], a[3]).schema;
        state(isRecord(writer));
        try {
            List<Integer> result = new ArrayList<>();
            flatten(readTree(reader, writer, tree(writer, new ArrayList<>(row))), result);
            row = result;
        } catch (CannotRead e) {
            throw new IllegalStateException();
        }
        return row.size();
    }
}
