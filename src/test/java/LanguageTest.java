import java.io.IOException;
import java.lang.reflect.Constructor;
import java.lang.reflect.Field;
import java.lang.reflect.Member;
import java.lang.reflect.Method;
import java.lang.reflect.Modifier;
import java.nio.file.Files;
import java.nio.file.Path;
import java.util.ArrayList;
import java.util.List;
import java.util.Set;
import java.util.TreeSet;
import java.util.regex.Matcher;
import java.util.regex.Pattern;

/** Looks through the class for what ../shared/LANGUAGE.md leaves out, as far as its words show that. */
public final class LanguageTest {
    private static final Due due = new Due("LanguageTest");
    private static final String[] NOT_THERE = {
        "\\b(throw|throws|try|catch|finally|synchronized|assert|protected|package|volatile|native|strictfp)\\b",
        "->", "::", "\\binstanceof\\b", "\\bnew\\s+\\w+(<.*>)?\\s*\\([^)]*\\)\\s*\\{",
        "\\b(equals|hashCode|toString|getClass|Object|Thread|Random)\\b", "\\w+Exact\\b", "\\bSystem\\.(?!arraycopy)",
        "\\bArrays\\.(?!fill|copyOf|copyOfRange)", "\\bstatic\\s*\\{", "\\bwhile\\s*\\(true\\)", "for\\s*\\(\\s*;",
    };

    public static void main(String[] args) throws IOException {
        String source = Files.readString(Path.of("src/main/java/TileDesk.java"));
        String code = source.replaceAll("(?s)/\\*.*?\\*/", "").replaceAll("//[^\n]*", "");
        for (String words : NOT_THERE) {
            Matcher found = Pattern.compile(words).matcher(code);
            due.is(words + (found.find() ? " at " + found.group() : ""), found.reset().find() ? 1 : 0, 0);
        }
        imports(code);
        statics(code);
        face();
        names();
        lengths(code);
        due.end();
    }

    private static void imports(String code) {
        Matcher found = Pattern.compile("import ([^;]*);").matcher(code);
        while (found.find()) {
            boolean may = found.group(1).matches("java\\.util\\.(Arrays|ArrayList|List|Iterator)");
            due.is("import of " + found.group(1), may ? 1 : 0, 1);
        }
    }

    private static void statics(String code) {
        Matcher found = Pattern.compile("(?m)^.*\\bstatic\\b[^({]*=.*$").matcher(code);
        while (found.find()) {
            due.is("final: " + found.group().trim(), found.group().contains("static final") ? 1 : 0, 1);
        }
    }

    /** The face that the document shows is all that is public, and all else is private. */
    private static void face() throws IOException {
        Set<String> told = new TreeSet<>();
        Matcher found = Pattern.compile("public (?:static final )?(int [^;]*|TileDesk\\(\\));")
            .matcher(Files.readString(Path.of("../shared/DOC.md")));
        while (found.find()) {
            told.addAll(parts(found.group(1)));
        }
        Set<String> there = new TreeSet<>();
        for (Constructor<?> made : TileDesk.class.getDeclaredConstructors()) {
            member(there, made, "TileDesk" + kinds(made.getParameterTypes()));
        }
        for (Method method : TileDesk.class.getDeclaredMethods()) {
            member(there, method, method.getReturnType() + " " + method.getName() + kinds(method.getParameterTypes()));
        }
        for (Field field : TileDesk.class.getDeclaredFields()) {
            member(there, field, field.getType() + " " + field.getName());
        }
        due.is("calls, constants and the constructor of the document", told.size(), 33 + 4 + 1);
        for (String one : told) {
            due.is("there is " + one, there.contains(one) ? 1 : 0, 1);
        }
        for (String one : there) {
            due.is("the document has " + one, told.contains(one) ? 1 : 0, 1);
        }
        due.is("public and final", TileDesk.class.getModifiers(), Modifier.PUBLIC | Modifier.FINAL);
    }

    /** "int f(int a, boolean b)" as "int f(int, boolean)"; "int A = 1, B = 2" as "int A" and "int B". */
    private static List<String> parts(String words) {
        if (words.contains("(")) {
            return List.of(words.replaceAll("(int|boolean) \\w+([,)])", "$1$2"));
        }
        List<String> names = new ArrayList<>();
        for (String name : words.substring("int ".length()).split(",")) {
            names.add("int " + name.replaceAll("=.*", "").trim());
        }
        return names;
    }

    private static String kinds(Class<?>[] kinds) {
        StringBuilder all = new StringBuilder();
        for (Class<?> kind : kinds) {
            all.append(all.length() > 0 ? ", " : "").append(kind);
        }
        return "(" + all + ")";
    }

    private static void member(Set<String> open, Member member, String words) {
        boolean isPublic = Modifier.isPublic(member.getModifiers());
        boolean isPrivate = Modifier.isPrivate(member.getModifiers());
        due.is("public or private: " + words, isPublic || isPrivate || member.isSynthetic() ? 1 : 0, 1);
        if (isPublic) {
            open.add(words);
        }
    }

    /** No call of a class inside bears the name of one of the face. */
    private static void names() {
        Set<String> face = new TreeSet<>();
        for (Method method : TileDesk.class.getMethods()) {
            face.add(method.getName());
        }
        due.is("classes inside", TileDesk.class.getDeclaredClasses().length > 12 ? 1 : 0, 0);
        for (Class<?> inside : TileDesk.class.getDeclaredClasses()) {
            due.is("static: " + inside, Modifier.isStatic(inside.getModifiers()) ? 1 : 0, 1);
            for (Method method : inside.getDeclaredMethods()) {
                due.is("a name of the face: " + method, face.contains(method.getName()) ? 1 : 0, 0);
            }
        }
    }

    private static void lengths(String code) {
        int open = 0;
        int begun = 0;
        String[] lines = code.split("\n");
        for (int n = 0; n < lines.length; n++) {
            String line = lines[n];
            boolean head = line.matches("\\s+[\\w\\s\\[\\]]+\\([\\w\\s,\\[\\]]*\\) \\{") && !line.contains(" else ");
            if (head && line.matches("( {4}| {8})\\S.*")) {
                open = line.indexOf(line.trim());
                begun = n;
                due.is("at most seven parameters: " + line.trim(), line.split(",").length > 7 ? 1 : 0, 0);
            }
            if (open > 0 && line.equals(" ".repeat(open) + "}")) {
                due.is("at most sixty lines: " + lines[begun].trim(), n - begun > 60 ? 1 : 0, 0);
                open = 0;
            }
        }
    }
}
