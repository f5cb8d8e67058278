import java.io.IOException;
import java.lang.reflect.Constructor;
import java.lang.reflect.Executable;
import java.lang.reflect.Field;
import java.lang.reflect.Method;
import java.lang.reflect.Modifier;
import java.nio.file.Path;
import java.util.ArrayList;
import java.util.Arrays;
import java.util.HashSet;
import java.util.List;
import java.util.Set;
import java.util.regex.Matcher;
import java.util.regex.Pattern;

/** The rules of ../shared/LANGUAGE.md that can be seen by the class and its text. It is run where src is. */
public final class LanguageTest {
    private static final int MOST_CLASSES = 12, MOST_FIELDS = 20, MOST_PARAMETERS = 7, MOST_LINES = 60;
    private static final String SOURCE = "src/main/java/StepRewriter.java";
    /** What the class has no need of, and mostly may not have. */
    private static final String[] WORDS = {"->", "::", "try", "catch", "finally", "throw", "throws", "synchronized",
        "assert", "volatile", "native", "transient", "Thread", "System", "Random", "Object", "equals", "hashCode"};
    private static final Set<String> IMPORTS = Set.of("import java.util.Arrays;", "import java.util.ArrayList;",
        "import java.util.List;");
    private static final Due DUE = new Due("LanguageTest");

    public static void main(String[] args) throws IOException {
        List<Class<?>> classes = new ArrayList<>(List.of(StepRewriter.class));
        classes.addAll(Arrays.asList(StepRewriter.class.getDeclaredClasses()));
        DUE.is("rule 11, classes", classes.size() <= MOST_CLASSES ? 1 : 0, 1);
        Set<String> face = new HashSet<>();
        for (Method method : StepRewriter.class.getDeclaredMethods()) {
            if (Modifier.isPublic(method.getModifiers())) {
                face.add(method.getName());
            }
        }
        for (Class<?> one : classes) {
            classForm(one);
            fields(one);
            methods(one, face);
        }
        List<String> lines = java.nio.file.Files.readAllLines(Path.of(SOURCE));
        words(lines);
        lengths(lines);
        DUE.end();
    }

    private static void classForm(Class<?> one) {
        boolean outer = one == StepRewriter.class;
        DUE.is("rule 2, " + one + " is static", outer || Modifier.isStatic(one.getModifiers()) ? 1 : 0, 1);
        DUE.is("rule 1, " + one + " is seen", !outer && Modifier.isPublic(one.getModifiers()) ? 1 : 0, 0);
        DUE.is("rule 11, classes inside " + one, outer ? 0 : one.getDeclaredClasses().length, 0);
    }

    private static void fields(Class<?> one) {
        int own = 0;
        for (Field field : one.getDeclaredFields()) {
            boolean isStatic = Modifier.isStatic(field.getModifiers());
            own += isStatic ? 0 : 1;
            DUE.is("rule 5, " + field, isStatic && !Modifier.isFinal(field.getModifiers()) ? 1 : 0, 0);
            DUE.is("rule 3, " + field, isOfARule(field.getType()) ? 1 : 0, 1);
        }
        DUE.is("rule 11, fields of " + one, own <= MOST_FIELDS ? 1 : 0, 1);
    }

    private static boolean isOfARule(Class<?> type) {
        Class<?> of = type.isArray() ? type.getComponentType() : type;
        return of.isPrimitive() || of == String.class || of.getNestHost() == StepRewriter.class;
    }

    private static void methods(Class<?> one, Set<String> face) {
        List<Executable> all = new ArrayList<>(Arrays.<Executable>asList(one.getDeclaredMethods()));
        all.addAll(Arrays.<Constructor<?>>asList(one.getDeclaredConstructors()));
        for (Executable method : all) {
            boolean isPublic = one == StepRewriter.class && Modifier.isPublic(method.getModifiers());
            DUE.is("rule 1, name of " + method, !isPublic && face.contains(method.getName()) ? 1 : 0, 0);
            DUE.is("rule 11, parameters of " + method, method.getParameterCount() <= MOST_PARAMETERS ? 1 : 0, 1);
        }
    }

    private static void words(List<String> lines) {
        for (String line : lines) {
            if (line.startsWith("import") || line.startsWith("package")) {
                DUE.is("rules 1 and 4, " + line, IMPORTS.contains(line) ? 1 : 0, 1);
            }
        }
        for (String word : WORDS) {
            boolean letters = Character.isLetter(word.charAt(0));
            Pattern alone = Pattern.compile(letters ? "\\b" + word + "\\b" : Pattern.quote(word));
            long found = lines.stream().map(line -> line.replaceAll("//.*|/?\\*.*", ""))
                .filter(code -> alone.matcher(code).find()).count();
            DUE.is("rules 2, 4 and 6, lines with " + word, found, 0);
        }
    }

    private static void lengths(List<String> lines) {
        Pattern begin = Pattern.compile("( {4}| {8})(?! |if |for |while |switch )[\\w\\[\\] ]+\\(.*\\) \\{");
        int methods = 0;
        for (int i = 0; i < lines.size(); i++) {
            Matcher head = begin.matcher(lines.get(i));
            if (head.matches()) {
                int end = i + lines.subList(i, lines.size()).indexOf(head.group(1) + "}");
                DUE.is("rule 11, lines of " + lines.get(i).trim(), end > i && end - i < MOST_LINES ? 1 : 0, 1);
                methods++;
            }
        }
        DUE.is("methods were found", methods > 50 ? 1 : 0, 1);
    }
}
