import java.io.IOException;
import java.lang.reflect.Modifier;
import java.nio.charset.StandardCharsets;
import java.nio.file.Files;
import java.nio.file.Path;
import java.util.ArrayList;
import java.util.Arrays;
import java.util.HashSet;
import java.util.List;
import java.util.Set;
import java.util.regex.Matcher;
import java.util.regex.Pattern;

/** What of LANGUAGE.md can be seen without understanding the program. */
public final class LanguageTest {
    private static final Check check = new Check("LanguageTest");
    private static final Path FILE = Path.of("src/main/java/TheyHearLate.java");
    private static final Pattern METHOD = Pattern.compile("^ {4,8}(?:[a-z]+ )*[A-Za-z\\[\\]]+ ([a-z][A-Za-z]*)\\((.*)\\).* \\{$");

    public static void main(String[] args) throws IOException {
        String text = new String(Files.readAllBytes(FILE), StandardCharsets.ISO_8859_1);
        List<String> lines = Arrays.asList(text.split("\n"));
        signs(text);
        words(text);
        face();
        methods(lines);
        classes(text);
        check.end();
    }

    private static void signs(String text) {
        boolean plain = true;
        for (char c : text.toCharArray()) {
            plain &= c < 127;
        }
        check.due("signs are 1 to 126", plain, true);
    }

    private static void words(String text) {
        String[] none = {"->", "::", "\\bfinally\\b", "\\bsynchronized\\b", "\\bassert\\b", "\\bcatch\\b", "\\btry\\b",
                "\\binstanceof\\b", "\\bvar\\b", "\\bdouble\\b", "\\bfloat\\b", "\\bpackage\\b", "\"\\s*\\+", "\\+\\s*\"",
                "Exact\\(", "System\\.(?!arraycopy)", "static \\{", "\\bprotected\\b", "\\b(equals|hashCode|toString)\\(",
                "catch|Throwable|Error\\b"};
        for (String word : none) {
            check.due("holds " + word, Pattern.compile(word).matcher(text).find(), false);
        }
        Matcher imports = Pattern.compile("^import (.*);$", Pattern.MULTILINE).matcher(text);
        check.due("imports", imports.find() && imports.group(1).equals("java.util.NoSuchElementException"), true);
        check.due("imports one", imports.find(), false);
        Matcher thrown = Pattern.compile("throw (.*);").matcher(text);
        while (thrown.find()) {
            check.due(thrown.group(), thrown.group(1).equals("new NoSuchElementException()"), true);
        }
        Matcher statics = Pattern.compile("^ +(?:private )?static (?!final )[^(]*;$", Pattern.MULTILINE).matcher(text);
        check.due("static fields that are not final", statics.find(), false);
    }

    private static void face() {
        Class<?> is = TheyHearLate.class;
        check.due("public and final", Modifier.isPublic(is.getModifiers()) && Modifier.isFinal(is.getModifiers()), true);
        Set<String> open = new HashSet<>();
        for (var method : is.getDeclaredMethods()) {
            if (Modifier.isPublic(method.getModifiers())) {
                open.add(method.getName());
            } else {
                check.due("private " + method.getName(), Modifier.isPrivate(method.getModifiers()), true);
            }
        }
        check.due("names of the face", open.size(), 46);
        List<Class<?>> all = new ArrayList<>(List.of(is.getDeclaredClasses()));
        check.due("classes", all.size() < 12, true);
        all.add(is);
        for (Class<?> one : all) {
            int fields = 0;
            for (var field : one.getDeclaredFields()) {
                fields += Modifier.isStatic(field.getModifiers()) ? 0 : 1;
                boolean free = field.getName().equals("NONE") || one != is;
                check.due("field " + field, free || Modifier.isPrivate(field.getModifiers()), true);
            }
            check.due("fields of " + one, fields <= 20, true);
            for (var method : one.getDeclaredMethods()) {
                boolean own = one == is && Modifier.isPublic(method.getModifiers());
                check.due("name of " + method, own || !open.contains(method.getName()), true);
                check.due("parameters of " + method, method.getParameterCount() <= 7, true);
            }
        }
    }

    private static void methods(List<String> lines) {
        int found = 0;
        for (int i = 0; i < lines.size(); i++) {
            Matcher method = METHOD.matcher(lines.get(i));
            if (method.matches() && !lines.get(i).contains(" class ")) {
                String indent = lines.get(i).replaceAll("\\S.*", "");
                int end = i;
                while (!lines.get(end).equals(indent + "}")) {
                    end++;
                }
                found++;
                check.due("lines of " + method.group(1) + ": " + (end - i + 1), end - i + 1 <= 60, true);
                List<String> body = lines.subList(i + 1, end);
                boolean calls = Pattern.compile("(?<![.A-Za-z])" + method.group(1) + "\\(").matcher(String.join("\n", body)).find();
                check.due("calls itself: " + method.group(1), calls, false);
            }
        }
        check.due("methods are found", found > 100, true);
    }

    private static void classes(String text) {
        Matcher inside = Pattern.compile("^ +(.*)class (\\w+) \\{$", Pattern.MULTILINE).matcher(text);
        while (inside.find()) {
            check.due("class " + inside.group(2), inside.group(1).equals("private static final "), true);
        }
    }
}
