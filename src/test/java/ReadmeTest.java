import java.lang.reflect.InvocationTargetException;
import java.lang.reflect.Method;
import java.lang.reflect.Modifier;
import java.nio.file.Files;
import java.nio.file.Path;
import java.util.HashMap;
import java.util.List;
import java.util.Map;
import java.util.regex.Matcher;
import java.util.regex.Pattern;

/** What README.md shows is so: its example answers as it says, and it names every call of the face. */
public final class ReadmeTest {
    private static final Path README = Path.of("README.md");
    private static final String MAKING = "TrainingDiary diary = new TrainingDiary();";
    private static final Pattern CALL = Pattern.compile("(?:int (\\w+) = )?diary\\.(\\w+)\\((.*)\\); +// ([^:]+)(?:: .*)?");

    private final Checks checks = new Checks();
    private final Map<String, Method> face = new HashMap<>();
    private final Map<String, Integer> variables = new HashMap<>();
    private TrainingDiary diary;

    public static void main(String[] args) throws Exception {
        new ReadmeTest().run(Files.readAllLines(README));
    }

    private void run(List<String> rows) {
        for (Method method : TrainingDiary.class.getDeclaredMethods()) {
            if (Modifier.isPublic(method.getModifiers())) {
                face.put(method.getName(), method);
            }
        }
        example(rows);
        String text = String.join("\n", rows);
        for (String name : face.keySet()) {
            checks.due("README.md names " + name, true, () -> text.contains("`" + name + "`"));
        }
        checks.end("ReadmeTest");
    }

    private void example(List<String> rows) {
        int start = rows.indexOf("```java") + 1;
        checks.due("the example begins with a new diary", MAKING, () -> rows.get(start));
        diary = new TrainingDiary();
        int row = start + 1;
        while (!rows.get(row).equals("```")) {
            line(rows.get(row));
            row++;
        }
    }

    private void line(String row) {
        Matcher call = CALL.matcher(row);
        checks.due(row + " is a call with an answer", true, call::matches);
        if (call.matches()) {
            String due = call.group(4).replace("throws ", "throws.");
            checks.due(row, due, () -> answer(call));
        }
    }

    private Object answer(Matcher call) {
        String[] written = call.group(3).isEmpty() ? new String[0] : call.group(3).split(", ");
        Object[] arguments = new Object[written.length];
        for (int i = 0; i < written.length; i++) {
            Integer known = variables.get(written[i]);
            arguments[i] = known == null ? Integer.valueOf(written[i]) : known;
        }
        Object answer = invoke(face.get(call.group(2)), arguments);
        if (call.group(1) != null) {
            variables.put(call.group(1), (Integer) answer);
        }
        return answer;
    }

    private Object invoke(Method method, Object[] arguments) {
        try {
            return method.invoke(diary, arguments);
        } catch (InvocationTargetException e) {
            if (e.getCause() instanceof RuntimeException thrown) {
                throw thrown;
            }
            throw new AssertionError(e.getCause());
        } catch (IllegalAccessException e) {
            throw new AssertionError(e);
        }
    }
}
