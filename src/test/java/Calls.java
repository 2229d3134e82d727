import java.util.Arrays;
import java.util.Set;

/** Calls of a registry told as texts, and their answers told as texts: a number, true or false, or throws.X. */
final class Calls {
    /** The calls that only ask, and change nothing even if they are not refused. */
    static final Set<String> ASKING = Set.of("isAccepted", "versions", "number", "isThere", "length", "canRead",
            "readsAll", "isRecord", "valueAt");

    private static final Set<String> OWN =
            Set.of("IllegalArgumentException", "IndexOutOfBoundsException", "IllegalStateException");

    /** A call; a flag is told as 0 or 1. */
    record Call(String name, int... arguments) {
        @Override
        public String toString() {
            return name + Arrays.toString(arguments).replace('[', '(').replace(']', ')');
        }
    }

    private Calls() {
    }

    /** A call written as in Java, such as delete(0, 2, true). */
    static Call told(String call) {
        int open = call.indexOf('(');
        int close = call.lastIndexOf(')');
        String inside = call.substring(open + 1, close).trim();
        String[] words = inside.isEmpty() ? new String[0] : inside.split("\\s*,\\s*");
        int[] a = new int[words.length];
        for (int i = 0; i < words.length; i++) {
            a[i] = number(words[i]);
        }
        return new Call(call.substring(0, open).trim(), a);
    }

    static String answer(SchemaSubjects x, Call call) {
        return answer(x, call.name(), call.arguments());
    }

    static String answer(SchemaSubjects x, String name, int[] a) {
        try {
            return carryOut(x, name, a);
        } catch (RuntimeException e) {
            return thrower(e) + e.getClass().getSimpleName();
        }
    }

    // What the machine or its library throws by itself is never due, even if it is of a class that is.
    private static String thrower(RuntimeException e) {
        StackTraceElement[] trace = e.getStackTrace();
        boolean own = trace.length > 0 && trace[0].getClassName().startsWith("SchemaSubjects")
                && e.getCause() == null && OWN.contains(e.getClass().getSimpleName());
        return own ? "throws." : "machine.";
    }

    private static int number(String word) {
        switch (word) {
            case "true": return 1;
            case "false": return 0;
            case "Integer.MIN_VALUE": return Integer.MIN_VALUE;
            case "Integer.MAX_VALUE": return Integer.MAX_VALUE;
            default: return Integer.parseInt(word);
        }
    }

    private static String carryOut(SchemaSubjects x, String name, int[] a) {
        switch (name) {
            case "field": return "" + x.field(a[0], a[1], a[2], a[3]);
            case "byDefault": return "" + x.byDefault(a[0]);
            case "discard": return "" + x.discard();
            case "isAccepted": return "" + x.isAccepted(a[0]);
            case "register": return "" + x.register(a[0]);
            case "setMode": return "" + x.setMode(a[0], a[1], a[2] != 0);
            case "delete": return "" + x.delete(a[0], a[1], a[2] != 0);
            case "versions": return "" + x.versions(a[0]);
            case "number": return "" + x.number(a[0], a[1]);
            case "isThere": return "" + x.isThere(a[0], a[1]);
            case "length": return "" + x.length(a[0], a[1]);
            case "canRead": return "" + x.canRead(a[0], a[1], a[2], a[3]);
            case "readsAll": return "" + x.readsAll(a[0], a[1], a[2], a[3]);
            case "value": return "" + x.value(a[0]);
            case "clear": return "" + x.clear();
            case "isRecord": return "" + x.isRecord(a[0], a[1]);
            case "read": return "" + x.read(a[0], a[1], a[2], a[3]);
            case "valueAt": return "" + x.valueAt(a[0]);
            default: throw new Error("no such call: " + name);
        }
    }
}
