import java.lang.reflect.Constructor;
import java.lang.reflect.Field;
import java.lang.reflect.Method;
import java.lang.reflect.Modifier;
import java.nio.charset.StandardCharsets;
import java.nio.file.Files;
import java.nio.file.Path;
import java.util.Set;
import java.util.TreeSet;
import java.util.regex.Matcher;
import java.util.regex.Pattern;

/** What of ../shared/LANGUAGE.md can be seen from the file's words and from the compiled classes. */
public final class LanguageTest {
    private static final Path SOURCE = Path.of("src/main/java/BladesBench.java");
    private static final Path DOCUMENT = Path.of("../shared/DOC.md");
    private static final Set<String> LIBRARY = Set.of("System.arraycopy", "Math.abs", "Math.min", "Math.max",
        "Math.floorMod", "Math.floorDiv", "Integer.bitCount");
    private static int wrong = 0;

    public static void main(String[] args) throws Exception {
        String text = Files.readString(SOURCE, StandardCharsets.UTF_8);
        for (int i = 0; i < text.length(); i++) if (text.charAt(i) > 126) wrong("a sign beyond 126 at " + i);
        String code = text.replaceAll("(?s)/\\*.*?\\*/", " ").replaceAll("//[^\n]*", " ");
        words(code);
        library(code);
        lengths(text);
        face();
        classes();
        System.out.println(wrong == 0 ? "the file keeps to its language" : wrong + " breaches");
        if (wrong != 0) System.exit(1);
    }

    private static void wrong(String what) {
        wrong++;
        System.out.println("LANGUAGE.md: " + what);
    }

    private static void words(String code) {
        String banned = "throw|throws|try|catch|finally|synchronized|assert|import|package|float|double|native|volatile"
            + "|instanceof|yield|var|Object|Thread|Random|Runtime|equals|hashCode|toString|StringBuilder|String|\\w+Exact";
        find(code, "\\b(" + banned + ")\\b");
        find(code, "->");
        find(code, "::");
        find(code, "\"");
        find(code, "\\bnew \\w+\\([^)]*\\) *\\{");
        find(code, "\\bstatic +\\{");
        find(code, "[^\\x00-\\x7f]");
    }

    private static void find(String code, String pattern) {
        Matcher matcher = Pattern.compile(pattern).matcher(code);
        while (matcher.find()) wrong("'" + matcher.group() + "' stands in the file");
    }

    private static void library(String code) {
        Set<String> own = new TreeSet<>();
        Matcher declared = Pattern.compile("class (\\w+)").matcher(code);
        while (declared.find()) own.add(declared.group(1));
        Matcher call = Pattern.compile("\\b([A-Z]\\w*)\\.(\\w+)\\(").matcher(code);
        while (call.find()) {
            if (!own.contains(call.group(1)) && !LIBRARY.contains(call.group(1) + "." + call.group(2))) {
                wrong("the library's " + call.group());
            }
        }
    }

    /** A method begins at an indented line that ends with ) { and ends where that indent comes again with a brace. */
    private static void lengths(String text) {
        String[] lines = text.split("\n");
        for (int i = 0; i < lines.length; i++) {
            Matcher head = Pattern.compile("^( {4}| {8})\\S.*\\) \\{$").matcher(lines[i]);
            if (!head.matches()) continue;
            int end = i;
            while (end < lines.length && !lines[end].equals(head.group(1) + "}")) end++;
            if (end - i > 60) wrong("a method of " + (end - i) + " lines: " + lines[i].trim());
        }
        for (String line : lines) if (line.length() > 120) wrong("a long line: " + line.trim());
    }

    private static void face() throws Exception {
        String document = Files.readString(DOCUMENT, StandardCharsets.UTF_8);
        Set<String> due = new TreeSet<>();
        Matcher promised = Pattern.compile("(?m)^    public ([\\w ]+)\\(([^)]*)\\);$").matcher(document);
        while (promised.find()) {
            due.add(promised.group(1) + "(" + promised.group(2).replaceAll("(\\w+) \\w+", "$1") + ")");
        }
        Set<String> found = new TreeSet<>();
        for (Constructor<?> made : BladesBench.class.getDeclaredConstructors()) {
            if (!Modifier.isPrivate(made.getModifiers())) found.add("BladesBench" + types(made.getParameterTypes()));
        }
        for (Method method : BladesBench.class.getDeclaredMethods()) {
            if (Modifier.isPrivate(method.getModifiers()) || method.isSynthetic()) continue;
            if (!Modifier.isPublic(method.getModifiers())) wrong("not private: " + method);
            found.add(method.getReturnType().getName() + " " + method.getName() + types(method.getParameterTypes()));
        }
        if (due.size() < 38) wrong("the document's face could not be read");
        if (!due.equals(found)) wrong("the face is " + found + ", due is " + due);
        int constants = 0;
        for (Field field : BladesBench.class.getDeclaredFields()) {
            if (!Modifier.isPrivate(field.getModifiers())) constants++;
        }
        if (constants != 1) wrong(constants + " constants in the face");
        if (!Modifier.isFinal(BladesBench.class.getModifiers())) wrong("the class is not final");
    }

    private static String types(Class<?>[] types) {
        StringBuilder text = new StringBuilder("(");
        for (Class<?> type : types) text.append(text.length() > 1 ? ", " : "").append(type.getName());
        return text.append(")").toString();
    }

    private static void classes() {
        Set<String> names = new TreeSet<>();
        for (Method method : BladesBench.class.getDeclaredMethods()) {
            if (Modifier.isPublic(method.getModifiers())) names.add(method.getName());
        }
        Class<?>[] inside = BladesBench.class.getDeclaredClasses();
        if (inside.length + 1 > 12) wrong(inside.length + 1 + " classes");
        membersOf(BladesBench.class, names);
        for (Class<?> one : inside) {
            if (!Modifier.isStatic(one.getModifiers())) wrong("not static: " + one);
            if (Modifier.isPublic(one.getModifiers()) || Modifier.isProtected(one.getModifiers())) wrong("seen: " + one);
            if (one.getDeclaredClasses().length > 0) wrong("classes in " + one);
            membersOf(one, names);
        }
    }

    private static void membersOf(Class<?> one, Set<String> publicNames) {
        int fields = 0;
        for (Field field : one.getDeclaredFields()) {
            boolean fixed = Modifier.isFinal(field.getModifiers());
            if (Modifier.isStatic(field.getModifiers()) && !fixed) wrong("a static that changes: " + field);
            if (!Modifier.isStatic(field.getModifiers())) fields++;
        }
        if (fields > 20) wrong(fields + " fields in " + one);
        for (Method method : one.getDeclaredMethods()) {
            if (method.isSynthetic()) wrong("made by the compiler: " + method);
            if (method.getParameterCount() > 7) wrong("parameters of " + method);
            boolean shown = one == BladesBench.class && Modifier.isPublic(method.getModifiers());
            if (!shown && publicNames.contains(method.getName())) wrong("a public name: " + method);
        }
    }
}
