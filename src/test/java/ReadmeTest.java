import java.io.IOException;
import java.lang.reflect.InvocationTargetException;
import java.lang.reflect.Method;
import java.lang.reflect.Modifier;
import java.nio.file.Files;
import java.nio.file.Path;
import java.util.ArrayList;
import java.util.Arrays;
import java.util.HashSet;
import java.util.List;
import java.util.Set;
import java.util.TreeSet;
import java.util.regex.Matcher;
import java.util.regex.Pattern;
import java.util.stream.Collectors;
import java.util.stream.Stream;

/** What README.md says is so: its examples, its table of the ROW, the calls that throw, the tests it names. */
public final class ReadmeTest {
    private static final Check check = new Check("ReadmeTest");
    private static final Path TESTS = Path.of("src/test/java");

    private static final Pattern TOLD = Pattern.compile("tell\\(x, \"(.*)\"\\);");
    private static final Pattern ASKED = Pattern.compile("x\\.(\\w+)\\((.*)\\); +// ([-\\w]+)(?:: .*)?");
    private static final Pattern ROW_OF = Pattern.compile("\\| `(\\w+)` \\| (\\d+)(?: to \\d+)? \\| .* \\|");

    /** Calls of World.six() that answer, one of each that leaves numbers in the ROW. */
    private static final String[] TELLING = {
        "cost()", "would(20, 7)", "rules(0, 0, 11, 20)", "pair(0, 1, 20)", "echo(1)", "waits(0)", "swings()",
        "steer(1, 5, 3, 2)", "blind(1, 5, 3, 2)", "pull(1, 10, 10, 6)", "gentle(0, 100)", "two()", "stand(12, 210)",
        "gap()", "says(0, 1)", "soon(0, 1)", "chance(0, 1, 20)",
    };

    /** Calls of World.six() that leave it as it is: all others. */
    private static final String[] SILENT = {
        "person(1, 1, 1)", "set(0, 0, 4)", "link(0, 0, 4, true)", "beam(1, 3)", "sheet(0, 3, 1, 1)", "sign(1)", "end(1)",
        "rule(4)", "does(0, 0)", "go(3)", "begin()", "place(1)", "was(0, 0, 0)", "crossed()", "by(0, 1, 9)", "edge(1)",
        "weight(0, 0, 3)", "pays()", "know(0, 1, 50)", "deaf(5)", "warn(0, 1, 900, 9, 2)", "fog(1, 2, 2, 2)",
        "sure(0, 1, 50)", "seed(3)", "keep(1)", "again(1)", "count(1)", "row(0)",
    };

    public static void main(String[] args) throws IOException {
        List<String> lines = Files.readAllLines(Path.of("README.md"));
        examples(lines);
        helper(lines);
        rowOfEachCall(lines);
        callsThatThrow(lines);
        namesOfTests(lines);
        check.end();
    }

    private static void examples(List<String> lines) {
        TheyHearLate x = new TheyHearLate();
        int asked = 0;
        for (List<String> block : blocks(lines)) {
            if (!isHelper(block)) {
                for (String line : block) {
                    if (line.equals("TheyHearLate x = new TheyHearLate();")) {
                        x = new TheyHearLate();
                    } else {
                        example(x, line);
                    }
                    asked++;
                }
            }
        }
        check.due("lines of examples", asked > 40, true);
    }

    private static void example(TheyHearLate x, String line) {
        Matcher told = TOLD.matcher(line);
        Matcher call = ASKED.matcher(line);
        if (told.matches()) {
            Check.tell(x, told.group(1));
        } else if (call.matches()) {
            String got = answer(x, call.group(1), call.group(2));
            check.due("README: " + line + " (it is " + got + ")", got.equals(call.group(3)), true);
        } else {
            check.due("README has an example that can't be asked: " + line, false, true);
        }
    }

    private static List<List<String>> blocks(List<String> lines) {
        List<List<String>> blocks = new ArrayList<>();
        boolean inside = false;
        for (String line : lines) {
            if (line.startsWith("```")) {
                inside = !inside;
                if (inside) {
                    check.due("README has a block of " + line, line.equals("```java"), true);
                    blocks.add(new ArrayList<>());
                }
            } else if (inside) {
                blocks.get(blocks.size() - 1).add(line);
            }
        }
        return blocks;
    }

    private static boolean isHelper(List<String> block) {
        return block.get(0).startsWith("static ");
    }

    private static String answer(TheyHearLate x, String name, String told) {
        Method method = method(name);
        String[] words = told.isEmpty() ? new String[0] : told.split(", ");
        Object[] with = new Object[words.length];
        for (int i = 0; i < words.length; i++) {
            boolean truth = words[i].equals("true") || words[i].equals("false");
            with[i] = truth ? (Object) words[i].equals("true") : (Object) Long.decode(words[i]).intValue();
        }
        try {
            return method.invoke(x, with).toString();
        } catch (IllegalAccessException e) {
            throw new IllegalStateException(e);
        } catch (InvocationTargetException e) {
            return e.getCause().getClass().getSimpleName();
        }
    }

    private static Method method(String name) {
        for (Method method : TheyHearLate.class.getDeclaredMethods()) {
            if (Modifier.isPublic(method.getModifiers()) && method.getName().equals(name)) {
                return method;
            }
        }
        throw new IllegalStateException(name);
    }

    /** The method that README shows is the one that the tests tell texts by. */
    private static void helper(List<String> lines) throws IOException {
        String used = Files.readString(TESTS.resolve("Check.java"));
        int shown = 0;
        for (List<String> block : blocks(lines)) {
            if (isHelper(block)) {
                String text = block.stream().map(line -> "    " + line + "\n").collect(Collectors.joining());
                check.due("Check.java holds what README shows", used.contains(text), true);
                shown++;
            }
        }
        check.due("methods shown", shown, 1);
    }

    private static void rowOfEachCall(List<String> lines) {
        Set<String> asked = new TreeSet<>();
        for (String call : TELLING) {
            asked.add(nameOf(call));
            check.due("numbers that README says of " + call, numbersSaid(lines, nameOf(call)), rowAfter(call));
        }
        TheyHearLate near = new TheyHearLate();
        near.person(1, 0, 0);
        near.person(2, 0, 0);
        near.link(0, 0, 1, true);
        near.crier();
        asked.add("crier");
        check.due("ROW of crier()", near.count(4), numbersSaid(lines, "crier"));
        mostWhoPassOn();
        check.due("calls in README's table", asked.equals(namesInTable(lines)), true);
        for (String call : SILENT) {
            asked.add(nameOf(call));
            check.due("ROW left by " + call, rowStays(call), true);
        }
        check.due("all calls are asked", asked.size(), 46);
    }

    private static String nameOf(String call) {
        return call.substring(0, call.indexOf('('));
    }

    private static String ask(TheyHearLate x, String call) {
        return answer(x, nameOf(call), call.substring(call.indexOf('(') + 1, call.length() - 1));
    }

    private static int rowAfter(String call) {
        TheyHearLate x = World.six();
        check.due("refused: " + call, ask(x, call).equals("-1"), false);
        return x.count(4);
    }

    private static boolean rowStays(String call) {
        TheyHearLate x = World.six();
        ask(x, call);
        return x.count(4) == 3 && x.row(0) == 10 && x.row(1) == 2 && x.row(2) == -1;
    }

    private static void mostWhoPassOn() {
        TheyHearLate x = new TheyHearLate();
        for (int i = 0; i < 6; i++) {
            x.person(1, 0, 0);
        }
        for (int i = 0; i < 5; i++) {
            x.link(0, i, i + 1, true);
        }
        check.due("says by all others", x.says(0, 5), 5);
        check.row("says by all others", x, 1, 2, 3, 4);
    }

    private static int numbersSaid(List<String> lines, String name) {
        for (String line : lines) {
            Matcher row = ROW_OF.matcher(line);
            if (row.matches() && row.group(1).equals(name)) {
                return Integer.parseInt(row.group(2));
            }
        }
        return -1;
    }

    private static Set<String> namesInTable(List<String> lines) {
        Set<String> names = new HashSet<>();
        for (String line : lines) {
            Matcher row = ROW_OF.matcher(line);
            if (row.matches()) {
                names.add(row.group(1));
            }
        }
        return names;
    }

    private static void callsThatThrow(List<String> lines) {
        Set<String> throwing = new TreeSet<>();
        for (Method method : TheyHearLate.class.getDeclaredMethods()) {
            if (method.getExceptionTypes().length > 0) {
                throwing.add(method.getName());
            }
        }
        int at = lines.indexOf("### Which calls throw");
        String said = lines.get(at + 2).replaceAll(" throw .*", "");
        Set<String> named = new TreeSet<>(Arrays.asList(said.replace("`", "").split(", | and ")));
        check.due("README says that these throw: " + named, named.equals(throwing), true);
    }

    private static void namesOfTests(List<String> lines) throws IOException {
        Set<String> named = new TreeSet<>();
        for (String line : lines) {
            Matcher row = Pattern.compile("\\| (\\w+Test) \\| .* \\|").matcher(line);
            if (row.matches()) {
                named.add(row.group(1) + ".java");
            }
        }
        try (Stream<Path> files = Files.list(TESTS)) {
            Set<String> there = files.map(file -> file.getFileName().toString()).filter(name -> name.endsWith("Test.java"))
                    .collect(Collectors.toCollection(TreeSet::new));
            check.due("tests that README names: " + named + ", that are there: " + there, named.equals(there), true);
        }
    }
}
