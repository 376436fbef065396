import java.lang.reflect.Constructor;
import java.lang.reflect.Field;
import java.lang.reflect.Method;
import java.lang.reflect.Modifier;
import java.nio.charset.StandardCharsets;
import java.nio.file.Files;
import java.nio.file.Path;
import java.util.ArrayList;
import java.util.HashSet;
import java.util.List;
import java.util.Set;
import java.util.regex.Matcher;
import java.util.regex.Pattern;

/** The face of the class, and those rules of LANGUAGE.md that can be seen from the text or from the class. */
public final class LanguageTest {
    private static final Due due = new Due();
    private static final Path SOURCE = Path.of("src/main/java/FilesOpened.java");
    private static final Path DOCUMENT = Path.of("../shared/DOC.md");

    public static void main(String[] args) throws Exception {
        String text = Files.readString(SOURCE, StandardCharsets.ISO_8859_1);
        face();
        members();
        words(text);
        sizes(text);
        due.end();
    }

    /** Every line of the document's face stands as a public member, and there is no other. */
    private static void face() throws Exception {
        Set<String> want = new HashSet<>();
        Matcher rows = Pattern.compile("^    public (\\w+) (\\w+)\\((.*)\\);$", Pattern.MULTILINE)
            .matcher(Files.readString(DOCUMENT));
        while (rows.find()) {
            want.add(rows.group(1) + " " + rows.group(2) + "(" + rows.group(3).replaceAll("(\\w+) \\w+", "$1") + ")");
        }
        due.is("methods of the face", want.size(), 52);
        Set<String> got = new HashSet<>();
        for (Method method : FilesOpened.class.getDeclaredMethods()) {
            if (Modifier.isPublic(method.getModifiers())) {
                List<String> types = new ArrayList<>();
                for (Class<?> type : method.getParameterTypes()) {
                    types.add(type.getName());
                }
                got.add(method.getReturnType().getName() + " " + method.getName() + "(" + String.join(", ", types) + ")");
            }
        }
        for (String method : want) {
            due.yes("there is " + method, got.contains(method));
        }
        due.is("public methods", got.size(), want.size());
        due.is("constructors", FilesOpened.class.getConstructors().length, 1);
        due.is("NONE", FilesOpened.NONE, -1);
    }

    private static void members() {
        Set<String> names = new HashSet<>();
        for (Method method : FilesOpened.class.getMethods()) {
            names.add(method.getName());
        }
        for (Method method : FilesOpened.class.getDeclaredMethods()) {
            int how = method.getModifiers();
            due.yes(method + " is public or private", Modifier.isPublic(how) || Modifier.isPrivate(how));
            due.no(method + " bears a public name", Modifier.isPrivate(how) && names.contains(method.getName()));
        }
        for (Field field : FilesOpened.class.getDeclaredFields()) {
            boolean none = field.getName().equals("NONE");
            due.is(field + " is private", Modifier.isPrivate(field.getModifiers()) ? 1 : 0, none ? 0 : 1);
        }
        for (Constructor<?> made : FilesOpened.class.getDeclaredConstructors()) {
            due.yes(made + " is public", Modifier.isPublic(made.getModifiers()));
        }
        due.yes("the class is final", Modifier.isFinal(FilesOpened.class.getModifiers()));
        due.yes("at most twelve classes", FilesOpened.class.getDeclaredClasses().length < 12);
        for (Class<?> inside : FilesOpened.class.getDeclaredClasses()) {
            due.yes(inside + " is static", Modifier.isStatic(inside.getModifiers()));
            fields(inside);
        }
        fields(FilesOpened.class);
    }

    private static void fields(Class<?> of) {
        int own = 0;
        for (Field field : of.getDeclaredFields()) {
            int how = field.getModifiers();
            own += Modifier.isStatic(how) ? 0 : 1;
            due.no(field + " is static and not final", Modifier.isStatic(how) && !Modifier.isFinal(how));
        }
        due.yes(of + " has at most twenty fields", own <= 20);
    }

    private static void words(String text) {
        String code = text.replaceAll("/\\*\\*.*?\\*/", "").replaceAll("\"[^\"]*\"", "\"\"");
        for (String word : List.of("throw", "throws", "try", "catch", "finally", "synchronized", "assert", "package",
            "var", "yield", "System", "Object", "Random", "Thread", "protected", "hashCode", "toString")) {
            due.no("the word " + word, Pattern.compile("\\b" + word + "\\b").matcher(code).find());
        }
        for (String sign : List.of("->", "::", "Exact(", "[][]", "@")) {
            due.no("the sign " + sign, code.contains(sign));
        }
        Matcher imports = Pattern.compile("^import (.*);$", Pattern.MULTILINE).matcher(code);
        while (imports.find()) {
            due.yes("import " + imports.group(1), imports.group(1).equals("java.util.Arrays"));
        }
        for (int i = 0; i < text.length(); i++) {
            if (text.charAt(i) > 126) {
                due.is("the sign at " + i, text.charAt(i), 0);
            }
        }
    }

    private static void sizes(String text) {
        String[] lines = text.split("\n");
        Pattern head = Pattern.compile("^( +)(?:private |public |static )*[\\w\\[\\]]+ ?\\w*\\((.*)\\) \\{$");
        for (int i = 0; i < lines.length; i++) {
            Matcher found = head.matcher(lines[i]);
            if (!found.find() || lines[i].trim().matches("(if|for|while|switch|}).*")) {
                continue;
            }
            int end = i;
            while (end < lines.length && !lines[end].equals(found.group(1) + "}")) {
                end++;
            }
            due.yes(lines[i].trim() + " is short", end - i < 60);
            due.yes(lines[i].trim() + " takes at most seven", found.group(2).split(",").length <= 7);
        }
    }
}
