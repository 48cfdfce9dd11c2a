import java.lang.reflect.Member;
import java.lang.reflect.Method;
import java.lang.reflect.Modifier;
import java.nio.file.Files;
import java.nio.file.Path;
import java.util.ArrayList;
import java.util.HashSet;
import java.util.List;
import java.util.Set;
import java.util.TreeSet;
import java.util.regex.Matcher;
import java.util.regex.Pattern;

/** The public face as the document has it, and those rules of LANGUAGE.md that can be seen in the source. */
public final class LanguageTest {
    private static final Path SOURCE = Path.of("src/main/java/SlantGauges.java");
    private static final Path DOCUMENT = Path.of("../shared/DOC.md");

    public static void main(String[] args) throws Exception {
        face();
        nested();
        String code = withoutTexts(Files.readString(SOURCE));
        words(code);
        methods(code);
        privateNames();
        keptRoom();
        Checks.end();
    }

    private static void face() throws Exception {
        Set<String> due = new TreeSet<>();
        Matcher line = Pattern.compile("^    public (?:static final )?(.*);$", Pattern.MULTILINE)
                .matcher(Files.readString(DOCUMENT));
        while (line.find()) {
            due.add(line.group(1).replaceAll(" = .*", "").replaceAll("int \\w+([,)])", "int$1"));
        }
        Set<String> got = new TreeSet<>();
        for (Method method : SlantGauges.class.getDeclaredMethods()) {
            if (!Modifier.isPrivate(method.getModifiers())) {
                got.add(signature(method));
            }
        }
        for (Member field : SlantGauges.class.getDeclaredFields()) {
            if (!Modifier.isPrivate(field.getModifiers())) {
                got.add("int " + field.getName());
            }
        }
        got.add("SlantGauges()");
        due.remove("final class SlantGauges {");
        Checks.due("the public face", got, (Object) due);
        Checks.due("constructors", SlantGauges.class.getDeclaredConstructors().length, 1);
        Checks.due("final", Modifier.isFinal(SlantGauges.class.getModifiers()), true);
    }

    private static String signature(Method method) {
        List<String> types = new ArrayList<>();
        for (Class<?> type : method.getParameterTypes()) {
            types.add(type.getSimpleName());
        }
        List<String> thrown = new ArrayList<>();
        for (Class<?> type : method.getExceptionTypes()) {
            thrown.add(type.getSimpleName());
        }
        String head = method.getReturnType().getSimpleName() + " " + method.getName() + "("
                + String.join(", ", types) + ")";
        return thrown.isEmpty() ? head : head + " throws " + String.join(", ", thrown);
    }

    private static void nested() {
        Class<?>[] classes = SlantGauges.class.getDeclaredClasses();
        Checks.due("at most 12 classes", classes.length < 12, true);
        for (Class<?> nested : classes) {
            int modifiers = nested.getModifiers();
            Checks.due(nested + " is static", Modifier.isStatic(modifiers), true);
            Checks.due(nested + " is not public", Modifier.isPublic(modifiers) || Modifier.isProtected(modifiers), false);
            int fields = 0;
            for (java.lang.reflect.Field field : nested.getDeclaredFields()) {
                fields += Modifier.isStatic(field.getModifiers()) ? 0 : 1;
                boolean constant = Modifier.isFinal(field.getModifiers()) || !Modifier.isStatic(field.getModifiers());
                Checks.due(field + " is no other static state", constant, true);
            }
            Checks.due(nested + " has at most 20 fields", fields <= 20, true);
        }
    }

    private static String withoutTexts(String source) {
        return source.replaceAll("\"[^\"\n]*\"", "\"\"").replaceAll("'[^'\n]'", "' '").replaceAll("//[^\n]*", "")
                .replaceAll("(?s)/\\*.*?\\*/", "");
    }

    private static void words(String code) {
        for (String word : new String[] {"try", "catch", "finally", "synchronized", "assert", "instanceof", "package",
            "Object", "Exact", "System", "Random", "Thread", "yield", "record", "var"}) {
            Checks.due("the word " + word, Pattern.compile("\\b" + word + "\\b").matcher(code).find(), false);
        }
        for (String sign : new String[] {"->", "::", "@", "static {", "\"\" +", "+ \"\""}) {
            Checks.due("the sign " + sign, code.contains(sign), false);
        }
        Matcher imports = Pattern.compile("import ([^;]*);").matcher(code);
        while (imports.find()) {
            Checks.due("import", imports.group(1), (Object) "java.util.NoSuchElementException");
        }
        Matcher thrown = Pattern.compile("throw ([^(]*)").matcher(code);
        while (thrown.find()) {
            String what = thrown.group(1);
            boolean fine = what.equals("new NoSuchElementException") || what.equals("new IllegalArgumentException");
            Checks.due("throws " + what, fine, true);
        }
    }

    private static void methods(String code) {
        String[] lines = code.split("\n");
        Pattern head = Pattern.compile("^( {4}| {8})(?:[a-z]+ )*(?:[\\w\\[\\]]+ )?(\\w+)\\(([^)]*)\\)?[^;]*\\{?$");
        int count = 0;
        for (int at = 0; at < lines.length; at++) {
            Matcher method = head.matcher(lines[at]);
            if (!method.find() || lines[at].contains("=")) {
                continue;
            }
            int end = at;
            while (end < lines.length && !lines[end].equals(method.group(1) + "}")) {
                end++;
            }
            count++;
            Checks.due(method.group(2) + " has at most 60 lines", end - at + 1 <= 60, true);
            Checks.due(method.group(2) + " has at most 7 parameters", method.group(3).split(",").length <= 7, true);
        }
        Checks.due("methods are seen", count > 60, true);
    }

    private static void privateNames() {
        Set<String> open = new HashSet<>();
        for (Method method : SlantGauges.class.getDeclaredMethods()) {
            if (Modifier.isPublic(method.getModifiers())) {
                open.add(method.getName());
            }
        }
        List<Method> inner = new ArrayList<>();
        for (Method method : SlantGauges.class.getDeclaredMethods()) {
            if (!Modifier.isPublic(method.getModifiers())) {
                inner.add(method);
            }
        }
        for (Class<?> nested : SlantGauges.class.getDeclaredClasses()) {
            inner.addAll(List.of(nested.getDeclaredMethods()));
        }
        for (Method method : inner) {
            Checks.due(method + " bears the name of a public one", open.contains(method.getName()), false);
        }
    }

    /** What an object keeps is the same behind 512 calls as when it was made, and far below the room of a run. */
    private static void keptRoom() throws Exception {
        SlantGauges row = new SlantGauges();
        int made = keptBy(row);
        Checks.due("objects are counted", made > 100, true);
        Checks.due("few objects are kept", made < 1000, true);
        for (int k = 0; k < 128; k++) {
            row.addTube(0, 0, 1, 50, 10);
            row.saveSnapshot();
            row.feed(k, k, k, k, k);
            row.query(Math.min(20, k));
        }
        Checks.due("no more are kept behind 512 calls", keptBy(row), made);
    }

    private static int keptBy(Object root) throws Exception {
        Set<Object> seen = java.util.Collections.newSetFromMap(new java.util.IdentityHashMap<>());
        List<Object> open = new ArrayList<>(List.of(root));
        while (!open.isEmpty()) {
            Object next = open.remove(open.size() - 1);
            if (next == null || !seen.add(next)) {
                continue;
            }
            if (next instanceof Object[]) {
                open.addAll(java.util.Arrays.asList((Object[]) next));
            }
            for (java.lang.reflect.Field field : next.getClass().getDeclaredFields()) {
                boolean ours = next.getClass().getName().startsWith("SlantGauges");
                if (ours && !field.getType().isPrimitive() && !Modifier.isStatic(field.getModifiers())) {
                    field.setAccessible(true);
                    open.add(field.get(next));
                }
            }
        }
        return seen.size();
    }
}
