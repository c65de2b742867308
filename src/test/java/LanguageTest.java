import java.io.IOException;
import java.nio.file.Files;
import java.nio.file.Path;
import java.util.regex.Matcher;
import java.util.regex.Pattern;

/** Looks through the class for what ../shared/LANGUAGE.md leaves out, as far as its words show that. */
public final class LanguageTest {
    private static final Due due = new Due("LanguageTest");
    private static final String[] NOT_THERE = {
        "\\b(throw|throws|try|catch|finally|synchronized|assert|protected|package|volatile|native|strictfp)\\b",
        "->", "::", "\\binstanceof\\b", "\\bnew\\s+\\w+(<.*>)?\\s*\\([^)]*\\)\\s*\\{",
        "\\b(equals|hashCode|toString|getClass|Object|Thread|Random)\\b", "\\w+Exact\\b", "\\bSystem\\.(?!arraycopy)",
        "\\bArrays\\.(?!fill|copyOf|copyOfRange)", "\\bstatic\\s*\\{", "\\bwhile\\s*\\(true\\)", "for\\s*\\(\\s*;",
    };

    public static void main(String[] args) throws IOException {
        String source = Files.readString(Path.of("src/main/java/TileDesk.java"));
        String code = source.replaceAll("(?s)/\\*.*?\\*/", "").replaceAll("//[^\n]*", "");
        for (String words : NOT_THERE) {
            Matcher found = Pattern.compile(words).matcher(code);
            due.is(words + (found.find() ? " at " + found.group() : ""), found.reset().find() ? 1 : 0, 0);
        }
        imports(code);
        statics(code);
        face(code);
        names();
        lengths(code);
        due.end();
    }

    private static void imports(String code) {
        Matcher found = Pattern.compile("import ([^;]*);").matcher(code);
        while (found.find()) {
            boolean may = found.group(1).matches("java\\.util\\.(Arrays|ArrayList|List|Iterator)");
            due.is("import of " + found.group(1), may ? 1 : 0, 1);
        }
    }

    private static void statics(String code) {
        Matcher found = Pattern.compile("(?m)^.*\\bstatic\\b[^({]*=.*$").matcher(code);
        while (found.find()) {
            due.is("final: " + found.group().trim(), found.group().contains("static final") ? 1 : 0, 1);
        }
        due.is("no int beyond BAD to FULL", code.split("public static").length - 1, 1);
    }

    /** The class, its constants, its constructor and its 34 calls are all that is public. */
    private static void face(String code) {
        due.is("public words", code.split("\\bpublic\\b").length - 1, 1 + 1 + 1 + 33);
        for (java.lang.reflect.Method method : TileDesk.class.getDeclaredMethods()) {
            int marks = method.getModifiers();
            boolean hidden = java.lang.reflect.Modifier.isPrivate(marks);
            due.is("public or private: " + method, hidden || java.lang.reflect.Modifier.isPublic(marks) ? 1 : 0, 1);
        }
        for (java.lang.reflect.Field field : TileDesk.class.getDeclaredFields()) {
            int marks = field.getModifiers();
            boolean hidden = java.lang.reflect.Modifier.isPrivate(marks);
            due.is("public or private: " + field, hidden || java.lang.reflect.Modifier.isPublic(marks) ? 1 : 0, 1);
        }
    }

    /** No call of a class inside bears the name of one of the face. */
    private static void names() {
        java.util.Set<String> face = new java.util.TreeSet<>();
        for (java.lang.reflect.Method method : TileDesk.class.getMethods()) {
            face.add(method.getName());
        }
        due.is("classes inside", TileDesk.class.getDeclaredClasses().length > 11 ? 1 : 0, 0);
        for (Class<?> inside : TileDesk.class.getDeclaredClasses()) {
            due.is("static: " + inside, java.lang.reflect.Modifier.isStatic(inside.getModifiers()) ? 1 : 0, 1);
            for (java.lang.reflect.Method method : inside.getDeclaredMethods()) {
                due.is("a name of the face: " + method, face.contains(method.getName()) ? 1 : 0, 0);
            }
        }
    }

    private static void lengths(String code) {
        int open = 0;
        int begun = 0;
        String[] lines = code.split("\n");
        for (int n = 0; n < lines.length; n++) {
            String line = lines[n];
            boolean head = line.matches("\\s+[\\w\\s\\[\\]]+\\([\\w\\s,\\[\\]]*\\) \\{") && !line.contains(" else ");
            if (head && line.matches("( {4}| {8})\\S.*")) {
                open = line.indexOf(line.trim());
                begun = n;
                due.is("at most seven parameters: " + line.trim(), line.split(",").length > 7 ? 1 : 0, 0);
            }
            if (open > 0 && line.equals(" ".repeat(open) + "}")) {
                due.is("at most sixty lines: " + lines[begun].trim(), n - begun > 60 ? 1 : 0, 0);
                open = 0;
            }
        }
    }
}
