import java.io.IOException;
import java.lang.reflect.Constructor;
import java.lang.reflect.Field;
import java.lang.reflect.Method;
import java.lang.reflect.Modifier;
import java.nio.file.Files;
import java.nio.file.Path;
import java.util.ArrayList;
import java.util.HashSet;
import java.util.List;
import java.util.Set;
import java.util.TreeSet;
import java.util.regex.Matcher;
import java.util.regex.Pattern;

/** The class has the public face of the document and no other member to be seen; its text keeps to LANGUAGE.md. */
public final class FaceTest {
    private static final String A = "java.lang.IllegalArgumentException";
    private static final String I = "java.lang.IndexOutOfBoundsException";
    private static final String S = "java.lang.IllegalStateException";

    private static final String[] FACE = {
        "int field(int,int,int,int) throws " + A + "," + I + "," + S,
        "int byDefault(int) throws " + S + "," + A,
        "int discard()",
        "boolean isAccepted(int) throws " + A + "," + S,
        "int register(int) throws " + A + "," + S,
        "int setMode(int,int,boolean) throws " + A,
        "int delete(int,int,boolean) throws " + A + "," + I + "," + S,
        "int versions(int) throws " + A,
        "int number(int,int) throws " + A + "," + I,
        "boolean isThere(int,int) throws " + A + "," + I,
        "int length(int,int) throws " + A + "," + I,
        "boolean canRead(int,int,int,int) throws " + A + "," + I,
        "boolean readsAll(int,int,int,int) throws " + A + "," + I + "," + S,
        "int value(int) throws " + S,
        "int clear()",
        "boolean isRecord(int,int) throws " + A + "," + I,
        "int read(int,int,int,int) throws " + A + "," + I + "," + S,
        "int valueAt(int) throws " + I,
    };

    private static final String[] FORBIDDEN = {
        "->", "::", "\\bfinally\\b", "\\bsynchronized\\b", "\\bassert\\b", "\\bhashCode\\b", "Exact\\(",
        "\\bSystem\\.(?!arraycopy)", "^package\\b", "\\bstatic \\{", "\\btry \\(", "\" \\+", "\\+ \"",
        "catch \\([^)]*\\b(Throwable|Exception|Error|RuntimeException|ArrayIndexOutOfBoundsException"
            + "|NullPointerException|ClassCastException|NegativeArraySizeException|ArrayStoreException)\\b",
    };

    private static final Set<String> KINDS =
            Set.of("int", "long", "boolean", "char", "String", "int[]", "long[]", "char[]", "byte[]");

    // The class's own and those of the library that it uses; each of these stands in LANGUAGE.md.
    private static final Set<String> TYPES = Set.of("SchemaSubjects", "Row", "Field", "Schema", "Version", "Subject",
            "ArrayList", "IllegalArgumentException", "IndexOutOfBoundsException", "IllegalStateException");

    private static int wrong = 0;

    public static void main(String[] args) throws IOException {
        Class<?> face = SchemaSubjects.class;
        check(Modifier.toString(face.getModifiers()).equals("public final"), "the class is public and final");
        check(face.getPackageName().isEmpty(), "the class has no package");
        checkMethods(face);
        checkConstructors(face);
        checkFields(face);
        for (Class<?> inside : face.getDeclaredClasses()) {
            check(!Modifier.isPublic(inside.getModifiers()) && !Modifier.isProtected(inside.getModifiers())
                    && Modifier.isStatic(inside.getModifiers()), inside + " is static, and private or package-visible");
            checkPrivateNames(face, inside);
            checkFields(inside);
        }
        check(face.getDeclaredClasses().length < 12, "the file has at most twelve classes");
        String text = Files.readString(Path.of(args[0]));
        String document = Files.readString(Path.of(args[1]));
        checkText(text);
        checkLengths(text);
        checkPrinted(text, document);
        checkHeadings(text, document);
        if (wrong != 0) {
            System.exit(1);
        }
    }

    private static void check(boolean holds, String what) {
        if (!holds) {
            wrong++;
            System.out.println("does not hold: " + what);
        }
    }

    private static void checkMethods(Class<?> face) {
        Set<String> seen = new TreeSet<>();
        for (Method m : face.getDeclaredMethods()) {
            if (!Modifier.isPrivate(m.getModifiers())) {
                check(Modifier.toString(m.getModifiers()).equals("public"), m + " is plainly public");
                seen.add(told(m));
            }
        }
        check(seen.equals(new TreeSet<>(List.of(FACE))), "the methods are those of the face: " + seen);
        checkPrivateNames(face, face);
    }

    private static String told(Method m) {
        List<String> takes = new ArrayList<>();
        for (Class<?> c : m.getParameterTypes()) {
            takes.add(c.getName());
        }
        List<String> refuses = new ArrayList<>();
        for (Class<?> c : m.getExceptionTypes()) {
            refuses.add(c.getName());
        }
        return m.getReturnType() + " " + m.getName() + "(" + String.join(",", takes) + ")"
                + (refuses.isEmpty() ? "" : " throws " + String.join(",", refuses));
    }

    private static void checkPrivateNames(Class<?> face, Class<?> inside) {
        Set<String> names = new HashSet<>();
        for (Method m : face.getDeclaredMethods()) {
            if (Modifier.isPublic(m.getModifiers())) {
                names.add(m.getName());
            }
        }
        for (Method m : inside.getDeclaredMethods()) {
            check(Modifier.isPublic(m.getModifiers()) || !names.contains(m.getName()), m + " bears no public name");
            check(m.getParameterCount() <= 7, m + " takes at most seven parameters");
        }
    }

    private static void checkConstructors(Class<?> face) {
        Constructor<?>[] all = face.getDeclaredConstructors();
        check(all.length == 1 && all[0].getParameterCount() == 0 && Modifier.isPublic(all[0].getModifiers())
                && all[0].getExceptionTypes().length == 0, "there is one constructor, public and without parameters");
    }

    private static void checkFields(Class<?> inside) {
        int own = 0;
        for (Field f : inside.getDeclaredFields()) {
            int m = f.getModifiers();
            check(inside != SchemaSubjects.class || Modifier.isPrivate(m), f + " is private");
            check(!Modifier.isStatic(m) || Modifier.isFinal(m), f + " is final, being static");
            check(!Modifier.isStatic(m) || KINDS.contains(f.getType().getSimpleName()), f + " is a constant");
            own += Modifier.isStatic(m) ? 0 : 1;
        }
        check(own <= 20, inside + " has at most twenty fields");
    }

    private static String codeOf(String text) {
        return text.replaceAll("(?s)/\\*.*?\\*/", "").replaceAll("//[^\n]*", "").replaceAll("\"[^\"\n]*\"", "\"\"");
    }

    private static void checkText(String text) {
        String code = codeOf(text);
        for (String sign : FORBIDDEN) {
            Matcher m = Pattern.compile(sign, Pattern.MULTILINE).matcher(code);
            check(!m.find(), "the text is without " + sign);
        }
        Matcher imports = Pattern.compile("import ([^;]*);").matcher(code);
        while (imports.find()) {
            check(Set.of("java.util.ArrayList", "java.util.List", "java.util.Arrays").contains(imports.group(1)),
                    "the import of " + imports.group(1) + " is on the list");
        }
        Matcher types = Pattern.compile("\\b[A-Z]\\w*[a-z]\\w*").matcher(code);
        while (types.find()) {
            check(TYPES.contains(types.group()), types.group() + " is a type that the class may use");
        }
        check(text.chars().allMatch(c -> c == '\n' || c >= 32 && c < 127), "the text is plain ASCII");
    }

    // A method begins at four or eight blanks and ends with a brace alone behind as many.
    private static void checkLengths(String text) {
        String[] lines = text.split("\n");
        for (int i = 0; i < lines.length; i++) {
            Matcher m = Pattern.compile("( {4}| {8})[a-zA-Z].*\\([^;]*").matcher(lines[i]);
            int end = i;
            while (m.matches() && end < lines.length && !lines[end].equals(m.group(1) + "}")) {
                end++;
            }
            check(end - i <= 60, "the method in line " + (i + 1) + " is short");
        }
    }

    /** The face as the document prints it, with the names of what is told, in its order, and nothing more. */
    private static void checkPrinted(String text, String document) {
        String code = codeOf(text).replaceAll("\\s+", " ");
        String printed = document.substring(document.indexOf("```java"), document.lastIndexOf("```"));
        int from = 0;
        int told = 0;
        for (String line : printed.split("\n")) {
            String sign = line.trim().replaceAll("( \\{|;)$", "");
            if (sign.startsWith("public ")) {
                int at = code.indexOf(sign + " {", from);
                check(at >= 0, "the class has, in the document's order, " + sign);
                from = Math.max(from, at);
                told++;
            }
        }
        check(told > 1 && code.split("\\bpublic\\b").length - 1 == told, "the class has " + told + " public signs");
    }

    /** "Ahead of the calls .. the interface says: ---- .." */
    private static void checkHeadings(String text, String document) {
        Matcher said = Pattern.compile("Ahead of the calls (.*) the interface says: (---- .*)\\.\n").matcher(document);
        int told = 0;
        while (said.find()) {
            for (String call : said.group(1).split(", ")) {
                told++;
                Matcher m = Pattern.compile("public \\w+ " + call.replace("`", "") + "\\(").matcher(text);
                String ahead = m.find() ? text.substring(0, m.start()) : "";
                int last = ahead.lastIndexOf("---- ");
                check(last >= 0 && ahead.startsWith(said.group(2) + "\n", last), said.group(2) + " is ahead of " + call);
            }
        }
        check(told == FACE.length, "each call has a heading");
    }
}
