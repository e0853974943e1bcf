import java.io.IOException;
import java.lang.reflect.Method;
import java.nio.file.Files;
import java.nio.file.Path;
import java.util.List;
import java.util.Set;
import java.util.TreeSet;
import java.util.regex.Matcher;
import java.util.regex.Pattern;

/** README.md tells how to use the class: what its example says is what the class answers. */
public final class ReadmeTest {
    private static final Pattern STEP =
            Pattern.compile("bench\\.(\\w+)\\(([^)]*)\\); +// (-?\\w+)(:.*)?");
    private static final Pattern TABLE_ROW = Pattern.compile("\\| `(\\w+)\\(.*");

    private static int wrong = 0;

    private static void fail(String what) {
        wrong++;
        System.out.println(what);
    }

    public static void main(String[] args) throws IOException, ReflectiveOperationException {
        List<String> lines = Files.readAllLines(Path.of("README.md"));
        Set<String> face = new TreeSet<>();
        for (Method method : ClaimBench.class.getMethods()) {
            if (method.getDeclaringClass() == ClaimBench.class) {
                face.add(method.getName());
            }
        }
        dueNames("the example", face, runExample(lines));
        dueNames("the table", face, namesInTable(lines));
        System.out.println(wrong == 0 ? "the class is as README.md says" : wrong + " differences");
        if (wrong != 0) {
            System.exit(1);
        }
    }

    private static void dueNames(String where, Set<String> want, Set<String> got) {
        if (!got.equals(want)) {
            fail(where + " names " + got + ", due is " + want);
        }
    }

    private static Set<String> runExample(List<String> lines) throws ReflectiveOperationException {
        Set<String> names = new TreeSet<>();
        ClaimBench bench = new ClaimBench();
        for (String line : lines) {
            Matcher step = STEP.matcher(line);
            if (step.matches()) {
                names.add(step.group(1));
                String got = answer(bench, step.group(1), step.group(2).split(", "));
                if (!got.equals(step.group(3))) {
                    fail(line + " .. answered " + got);
                }
            } else if (line.startsWith("bench.")) {
                fail("a call without its answer: " + line);
            }
        }
        return names;
    }

    private static String answer(ClaimBench bench, String name, String[] written)
            throws ReflectiveOperationException {
        Class<?>[] types = new Class<?>[written.length];
        Object[] values = new Object[written.length];
        for (int i = 0; i < written.length; i++) {
            boolean isFlag = written[i].equals("true") || written[i].equals("false");
            types[i] = isFlag ? boolean.class : int.class;
            values[i] = isFlag ? (Object) written[i].equals("true") : Integer.valueOf(written[i]);
        }
        return String.valueOf(ClaimBench.class.getMethod(name, types).invoke(bench, values));
    }

    private static Set<String> namesInTable(List<String> lines) {
        Set<String> names = new TreeSet<>();
        for (String line : lines) {
            Matcher row = TABLE_ROW.matcher(line);
            if (row.matches()) {
                names.add(row.group(1));
            }
        }
        return names;
    }
}
