import java.io.IOException;
import java.lang.reflect.Method;
import java.lang.reflect.Modifier;
import java.nio.file.Files;
import java.nio.file.Path;
import java.util.List;
import java.util.regex.Matcher;
import java.util.regex.Pattern;

/** README.md tells the truth: its example answers what it says, and its tables name every call. */
public final class ReadmeTest {
    private static final Pattern CALL = Pattern.compile("desk\\.(\\w+)\\(([^)]*)\\);");
    private static final Pattern TOLD = Pattern.compile("// (true|false|-?\\d+)(:.*)?");

    private static int wrong = 0;

    public static void main(String[] args) throws IOException, ReflectiveOperationException {
        List<String> lines = Files.readAllLines(Path.of("README.md"));
        example(lines);
        for (Method method : SpellDesk.class.getDeclaredMethods()) {
            if (Modifier.isPublic(method.getModifiers())) {
                String row = "| `" + method.getName() + "(";
                check(lines.stream().filter(line -> line.startsWith(row)).count() == 1,
                    "one row of a table is about " + method.getName());
            }
        }
        System.out.println(wrong == 0 ? "README.md is as due" : wrong + " parts of README.md are not as due");
        if (wrong != 0) {
            System.exit(1);
        }
    }

    private static void example(List<String> lines) throws ReflectiveOperationException {
        SpellDesk desk = new SpellDesk();
        int answersTold = 0;
        for (String line : lines) {
            String answer = "";
            Matcher call = CALL.matcher(line);
            while (call.find()) {
                answer = String.valueOf(answer(desk, call.group(1), call.group(2)));
            }
            Matcher told = TOLD.matcher(line);
            if (!answer.isEmpty() && told.find()) {
                answersTold++;
                check(answer.equals(told.group(1)), line + " (it answered " + answer + ")");
            }
        }
        check(answersTold > 0, "the example tells answers");
    }

    private static Object answer(SpellDesk desk, String name, String given) throws ReflectiveOperationException {
        String[] texts = given.isEmpty() ? new String[0] : given.split(", ");
        Class<?>[] types = new Class<?>[texts.length];
        Object[] values = new Object[texts.length];
        for (int i = 0; i < texts.length; i++) {
            types[i] = int.class;
            values[i] = Integer.valueOf(texts[i]);
        }
        return SpellDesk.class.getMethod(name, types).invoke(desk, values);
    }

    private static void check(boolean holds, String rule) {
        if (!holds) {
            wrong++;
            System.out.println("does not hold: " + rule);
        }
    }
}
