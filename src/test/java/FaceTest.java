import java.lang.reflect.Constructor;
import java.lang.reflect.Field;
import java.lang.reflect.Method;
import java.lang.reflect.Modifier;
import java.nio.file.Files;
import java.nio.file.Path;
import java.util.Arrays;
import java.util.HashSet;
import java.util.List;
import java.util.Set;
import java.util.TreeSet;
import java.util.stream.Collectors;

/** The public face of the class is that of the document, and nothing else shows (LANGUAGE.md, rule 1). */
public final class FaceTest {
    private static final Path DOCUMENT = Path.of("../shared/DOC.md");
    private static final String FACE = "public final class TrainingDiary {";

    public static void main(String[] args) throws Exception {
        Checks checks = new Checks();
        Class<?> diary = TrainingDiary.class;
        checks.due("public and final", true, () -> Modifier.isPublic(diary.getModifiers()) && Modifier.isFinal(diary.getModifiers()));
        checks.due("public methods", promisedMethods(), () -> shownMethods(diary));
        checks.due("constructors", List.of("public TrainingDiary()"), () -> constructors(diary));
        checks.due("fields that show", 0L, () -> Arrays.stream(diary.getDeclaredFields()).filter(f -> !isPrivate(f.getModifiers())).count());
        checks.due("static fields that are not final", 0L, () -> Arrays.stream(diary.getDeclaredFields()).filter(FaceTest::isLooseStatic).count());
        checks.due("private methods with the name of a public one", new TreeSet<>(), () -> reusedNames(diary));
        checks.end("FaceTest");
    }

    private static Set<String> promisedMethods() throws Exception {
        Set<String> methods = new TreeSet<>();
        boolean inFace = false;
        for (String row : Files.readAllLines(DOCUMENT)) {
            String line = row.trim();
            if (inFace && line.equals("}")) {
                return methods;
            }
            if (inFace && !line.equals("public TrainingDiary();")) {
                methods.add(line.replace(";", "").replaceAll("int \\w+([,)])", "int$1"));
            }
            inFace = inFace || line.equals(FACE);
        }
        return methods;
    }

    private static Set<String> shownMethods(Class<?> diary) {
        Set<String> methods = new TreeSet<>();
        for (Method method : diary.getDeclaredMethods()) {
            if (!isPrivate(method.getModifiers())) {
                methods.add(written(method));
            }
        }
        return methods;
    }

    private static String written(Method method) {
        String parameters = names(method.getParameterTypes(), ",");
        String thrown = names(method.getExceptionTypes(), ", ");
        String head = Modifier.toString(method.getModifiers()) + " " + method.getReturnType().getSimpleName() + " " + method.getName();
        return head + "(" + parameters.replace(",", ", ") + ")" + (thrown.isEmpty() ? "" : " throws " + thrown);
    }

    private static String names(Class<?>[] types, String between) {
        return Arrays.stream(types).map(Class::getSimpleName).collect(Collectors.joining(between));
    }

    private static List<String> constructors(Class<?> diary) {
        return Arrays.stream(diary.getDeclaredConstructors()).map(Constructor::toString).collect(Collectors.toList());
    }

    private static boolean isPrivate(int modifiers) {
        return Modifier.isPrivate(modifiers);
    }

    private static boolean isLooseStatic(Field field) {
        return Modifier.isStatic(field.getModifiers()) && !Modifier.isFinal(field.getModifiers());
    }

    private static Set<String> reusedNames(Class<?> diary) {
        Set<String> shown = new HashSet<>();
        Set<String> reused = new TreeSet<>();
        for (Method method : diary.getMethods()) {
            shown.add(method.getName());
        }
        for (Method method : diary.getDeclaredMethods()) {
            if (isPrivate(method.getModifiers()) && shown.contains(method.getName())) {
                reused.add(method.getName());
            }
        }
        return reused;
    }
}
