import java.io.IOException;
import java.lang.reflect.Constructor;
import java.lang.reflect.Field;
import java.lang.reflect.Member;
import java.lang.reflect.Method;
import java.lang.reflect.Modifier;
import java.nio.file.Files;
import java.nio.file.Path;
import java.util.ArrayList;
import java.util.List;
import java.util.Set;
import java.util.TreeSet;
import java.util.regex.Matcher;
import java.util.regex.Pattern;

/** The face of the class as the document lists it, and those rules of the language that can be looked up. */
public final class FaceTest {
    private static final Path SOURCE = Path.of("src/main/java/SignalRoad.java");
    private static final Path DOCUMENT = Path.of("../shared/DOC.md");
    private static final String[] OUTSIDE = {"->", "::", "\\btry\\b", "\\bcatch\\b", "\\bfinally\\b", "\\bsynchronized\\b",
        "\\bassert\\b", "\\bfloatToIntBits\\b", "Exact\\(", "\\bSystem\\.(?!arraycopy)", "\\bObject\\b", "\\bMap\\b",
        "\\bStream", "\\bgetMessage\\b", "\\bhashCode\\b", "\\btoString\\b", "\\bString\\.", "\\bnative\\b",
        "\\bprotected\\b", "\\bstrictfp\\b", "\\bMath\\.(?!max|min|abs|floorMod|floorDiv)", "\\bstatic \\{", "\" \\+", "\\+ \""};

    public static void main(String[] args) throws IOException {
        String source = Files.readString(SOURCE);
        face();
        members();
        names();
        outside(source);
        lengths(source);
        Check.end();
    }

    private static void face() throws IOException {
        String document = Files.readString(DOCUMENT);
        String block = document.substring(document.indexOf("public final class"), document.indexOf("## Terms"));
        Set<String> due = new TreeSet<>();
        Matcher line = Pattern.compile("public (\\w+) (\\w+)\\(([^)]*)\\)(?: throws ([\\w, ]+))?;").matcher(block);
        while (line.find()) {
            String types = line.group(3).replaceAll("(\\w+) \\w+", "$1");
            due.add(line.group(1) + " " + line.group(2) + "(" + types + ") "
                    + (line.group(4) == null ? "" : line.group(4)));
        }
        Set<String> got = new TreeSet<>();
        for (Method method : SignalRoad.class.getDeclaredMethods()) {
            if (!Modifier.isPrivate(method.getModifiers())) {
                got.add(method.getReturnType().getSimpleName() + " " + method.getName() + "("
                        + simpleNames(method.getParameterTypes()) + ") " + simpleNames(method.getExceptionTypes()));
            }
        }
        Check.due("face: calls of the document", due.size(), 41);
        Check.due("face", got.toString(), due.toString());
        Check.due("face: constructors", SignalRoad.class.getDeclaredConstructors().length, 1);
        Check.due("face: public constructors", SignalRoad.class.getConstructors().length, 1);
        Check.due("face: final", Modifier.isFinal(SignalRoad.class.getModifiers()) ? 1 : 0, 1);
    }

    private static String simpleNames(Class<?>[] types) {
        List<String> names = new ArrayList<>();
        for (Class<?> type : types) {
            names.add(type.getSimpleName());
        }
        return String.join(", ", names);
    }

    private static void members() {
        for (Field field : SignalRoad.class.getDeclaredFields()) {
            Check.due("private: " + field.getName(), Modifier.isPrivate(field.getModifiers()) ? 1 : 0, 1);
        }
        for (Class<?> inside : SignalRoad.class.getDeclaredClasses()) {
            Check.due("private: " + inside, Modifier.isPrivate(inside.getModifiers()) ? 1 : 0, 1);
            Check.due("static: " + inside, Modifier.isStatic(inside.getModifiers()) ? 1 : 0, 1);
            Check.due("fields of " + inside, Math.max(20, fieldsBesideConstants(inside)), 20);
        }
        Check.due("fields of the class", Math.max(20, fieldsBesideConstants(SignalRoad.class)), 20);
        Check.due("classes", Math.max(12, 1 + SignalRoad.class.getDeclaredClasses().length), 12);
    }

    private static int fieldsBesideConstants(Class<?> type) {
        int count = 0;
        for (Field field : type.getDeclaredFields()) {
            boolean isStatic = Modifier.isStatic(field.getModifiers());
            count += isStatic ? 0 : 1;
            if (isStatic) {
                Check.due("final: " + field, Modifier.isFinal(field.getModifiers()) ? 1 : 0, 1);
            }
        }
        return count;
    }

    /** No other method bears the name of a public one, and none takes more than seven arguments. */
    private static void names() {
        Set<String> face = new TreeSet<>();
        List<Method> others = new ArrayList<>();
        for (Method method : SignalRoad.class.getDeclaredMethods()) {
            if (Modifier.isPublic(method.getModifiers())) {
                face.add(method.getName());
            } else {
                others.add(method);
            }
        }
        for (Class<?> inside : SignalRoad.class.getDeclaredClasses()) {
            others.addAll(List.of(inside.getDeclaredMethods()));
            for (Constructor<?> constructor : inside.getDeclaredConstructors()) {
                few(constructor, constructor.getParameterCount());
            }
        }
        for (Method method : others) {
            Check.due("name of its own: " + method, face.contains(method.getName()) ? 1 : 0, 0);
            few(method, method.getParameterCount());
        }
    }

    private static void few(Member member, int count) {
        Check.due("arguments of " + member, Math.max(7, count), 7);
    }

    private static void outside(String source) {
        String code = source.replaceAll("(?s)/\\*.*?\\*/", "").replaceAll("//.*", "");
        for (String words : OUTSIDE) {
            Matcher matcher = Pattern.compile(words).matcher(code);
            Check.due("outside the rules: " + words, matcher.find() ? matcher.group() : "", "");
        }
        for (String line : code.split("\n")) {
            boolean isImport = line.startsWith("import ");
            boolean isFine = line.equals("import java.util.Arrays;")
                    || line.equals("import java.util.NoSuchElementException;");
            Check.due("import: " + line, isImport && !isFine ? 1 : 0, 0);
        }
        Check.due("characters", source.replaceAll("[\\n -~]", ""), "");
    }

    private static void lengths(String source) {
        int start = -1;
        String[] lines = source.split("\n");
        for (int k = 0; k < lines.length; k++) {
            Check.due("line " + (k + 1), Math.max(120, lines[k].length()), 120);
            if (lines[k].matches(" {4}(?: {4})?[\\w\\[\\]]+ .*") && !lines[k].contains(";") && !lines[k].contains(" class ")) {
                start = k;
            }
            if (lines[k].matches(" {4}(?: {4})?}") && start >= 0) {
                Check.due("length of the method at " + (start + 1), Math.max(60, k - start + 1), 60);
                start = -1;
            }
        }
    }
}
