import java.io.IOException;
import java.lang.reflect.Constructor;
import java.lang.reflect.Field;
import java.lang.reflect.Method;
import java.lang.reflect.Modifier;
import java.nio.charset.StandardCharsets;
import java.nio.file.Files;
import java.nio.file.Path;
import java.util.ArrayList;
import java.util.List;

/** The public face: just the members that the document names, with its types, in its order, below its headings. */
public final class FaceTest {
    private static final Check check = new Check("FaceTest");
    private static final String NO_SUCH = " throws NoSuchElementException";

    private static final String[] FACE = {
        "// ---- the yard",
        "public int person(int late, int sight, int thinks)",
        "public int set(int person, int what, int v)",
        "public boolean link(int what, int one, int other, boolean is)",
        "public int beam(int what, int v)",
        "public int sheet(int kind, int n, int f, int step)",
        "public int sign(int v)",
        "public boolean end(int n)",
        "public int rule(int i)",
        "public int does(int person, int what)" + NO_SUCH,
        "// ---- minutes",
        "public int go(int n)" + NO_SUCH,
        "public boolean begin()",
        "public int place(int minute)" + NO_SUCH,
        "public int was(int person, int minute, int what)" + NO_SUCH,
        "public int cost()",
        "public int crossed()",
        "public int by(int one, int other, int minute)",
        "public int would(int n, int seed)",
        "public int rules(int person, int from, int to, int n)",
        "public int pair(int one, int other, int n)",
        "public int echo(int person)",
        "public int waits(int person)",
        "public int swings()",
        "// ---- steering by late sight",
        "public int steer(int late, int from, int n, int most)",
        "public int blind(int late, int from, int n, int most)",
        "// ---- pulls of a part",
        "public int pull(int late, int k, int x, int n)",
        "public int edge(int late)",
        "public int gentle(int late, int x)",
        "// ---- two who each see their end",
        "public int weight(int i, int j, int v)",
        "public int pays()",
        "public long two()",
        "public int stand(int one, int other)",
        "public long gap()",
        "// ---- asked, answered",
        "public int says(int one, int other)",
        "public int soon(int one, int other)",
        "public int know(int one, int other, int m)",
        "public int crier()",
        "public int deaf(int person)",
        "// ---- warnings, fog",
        "public int warn(int one, int other, int way, int speed, int brake)",
        "public boolean fog(int person, int a, int b, int c)",
        "public int chance(int one, int other, int m)",
        "public int sure(int one, int other, int power)",
        "// ---- kept",
        "public int seed(int v)",
        "public boolean keep(int i)",
        "public boolean again(int i)",
        "public int count(int what)",
        "public long row(int i)" + NO_SUCH,
    };

    public static void main(String[] args) throws Exception {
        theClassItself();
        theConstantAndTheConstructor();
        theCalls();
        theOrderInTheFile();
        check.end();
    }

    private static void theClassItself() {
        Class<?> is = TheyHearLate.class;
        check.due("public", Modifier.isPublic(is.getModifiers()), true);
        check.due("final", Modifier.isFinal(is.getModifiers()), true);
        check.due("without a package", is.getPackageName().isEmpty(), true);
        check.due("of no other class", is.getSuperclass() == Object.class && is.getInterfaces().length == 0, true);
    }

    private static void theConstantAndTheConstructor() throws ReflectiveOperationException {
        Field[] fields = TheyHearLate.class.getFields();
        check.due("open fields", fields.length, 1);
        Field none = TheyHearLate.class.getField("NONE");
        check.due("NONE is an int", none.getType() == int.class, true);
        check.due("NONE is fixed", none.getModifiers(), Modifier.PUBLIC | Modifier.STATIC | Modifier.FINAL);
        check.due("NONE", none.getInt(null), -1);
        Constructor<?>[] made = TheyHearLate.class.getDeclaredConstructors();
        check.due("constructors", made.length, 1);
        check.due("it takes nothing", made[0].getParameterCount(), 0);
        check.due("it throws nothing", made[0].getExceptionTypes().length, 0);
        check.due("it is open", Modifier.isPublic(made[0].getModifiers()), true);
    }

    /** By their types alone: a class file need not tell how parameters are called. */
    private static void theCalls() {
        List<String> want = new ArrayList<>();
        for (String line : FACE) {
            if (!line.startsWith("//")) {
                want.add(withoutParameterNames(line));
            }
        }
        int open = 0;
        for (Method method : TheyHearLate.class.getDeclaredMethods()) {
            if (Modifier.isPublic(method.getModifiers())) {
                open++;
                check.due("the document names " + told(method), want.contains(told(method)), true);
            }
        }
        check.due("open methods", open, want.size());
        check.due("calls that the document names", want.size(), 46);
    }

    private static String withoutParameterNames(String line) {
        return line.replaceAll("(int|boolean) \\w+([,)])", "$1$2");
    }

    private static String told(Method method) {
        List<String> types = new ArrayList<>();
        for (Class<?> type : method.getParameterTypes()) {
            types.add(type.getName());
        }
        StringBuilder line = new StringBuilder(Modifier.toString(method.getModifiers()));
        line.append(' ').append(method.getReturnType().getName()).append(' ').append(method.getName());
        line.append('(').append(String.join(", ", types)).append(')');
        for (Class<?> thrown : method.getExceptionTypes()) {
            line.append(" throws ").append(thrown.getSimpleName());
        }
        return line.toString();
    }

    private static void theOrderInTheFile() throws IOException {
        Path file = Path.of("src/main/java/TheyHearLate.java");
        List<String> got = new ArrayList<>();
        for (String line : Files.readAllLines(file, StandardCharsets.ISO_8859_1)) {
            boolean heading = line.startsWith("    // ---- ") && !line.endsWith("what several calls need");
            if (heading || line.matches(" {4}public \\w+ \\w+\\(.*")) {
                got.add(line.trim().replace(" {", ""));
            }
        }
        check.due("lines of the face in the file", got.size(), FACE.length);
        for (int i = 0; i < FACE.length && i < got.size(); i++) {
            check.due("line " + i + " of the face, " + FACE[i] + ", is " + got.get(i), got.get(i).equals(FACE[i]), true);
        }
    }
}
