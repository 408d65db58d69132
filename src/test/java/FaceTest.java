import java.io.IOException;
import java.lang.reflect.Field;
import java.lang.reflect.Method;
import java.lang.reflect.Modifier;
import java.nio.file.Files;
import java.nio.file.Path;
import java.util.ArrayList;
import java.util.Arrays;
import java.util.List;
import java.util.Set;
import java.util.TreeSet;
import java.util.regex.Matcher;
import java.util.regex.Pattern;
import java.util.stream.Collectors;

/** The public face as the document writes it, and those rules of LANGUAGE.md that a program can look at. */
public final class FaceTest {
    private static final String INDEX = "IndexOutOfBoundsException";
    private static final String ARGUMENT = "IllegalArgumentException";
    private static final String STATE = "IllegalStateException";
    private static final String[] FACE = {
        "int build(int, int, int, boolean) " + INDEX + " " + ARGUMENT + " " + STATE,
        "int remove(int) " + INDEX + " " + STATE,
        "int drain(int, boolean) " + INDEX + " " + STATE,
        "int heat(int, boolean) " + INDEX + " " + STATE,
        "int frost(int, int) " + ARGUMENT + " " + STATE,
        "int thaw(int) " + ARGUMENT,
        "int plan(int, int, int) " + ARGUMENT + " " + STATE,
        "int callOff(int) " + ARGUMENT,
        "int set(int, int) " + INDEX + " " + ARGUMENT,
        "int pass(int) " + ARGUMENT + " " + STATE,
        "int append(int) " + ARGUMENT + " " + STATE,
        "int clearBuffer()",
        "int firstError()",
        "int planAll() " + ARGUMENT + " " + STATE,
        "int undo() " + STATE,
        "int fountain(int, int) " + INDEX + " " + ARGUMENT,
        "int job(int, int) " + ARGUMENT,
        "int frostOf(int, int) " + ARGUMENT,
        "int outing(int, int) " + ARGUMENT,
        "int count(int) " + ARGUMENT,
        "int setting(int) " + INDEX,
        "int ifPassed(int, int) " + ARGUMENT,
        "int ifOuting(int, int) " + ARGUMENT,
        "int bestGate(int) " + ARGUMENT,
        "int daysToFilter(int) " + INDEX,
        "int bestOrder(int) " + ARGUMENT,
        "double fed()",
        "long digest()"};
    private static final String[] NOT_IN_THE_LANGUAGE = {"import ", "->", "::", "try ", "catch ", "finally",
        "synchronized", "assert ", "instanceof", "Exact\\(", "System\\.", "Double\\.", "static double", "static float",
        "Override", "toString", "equals", "hashCode", "throws Exception", "Object", "while \\(true\\)", "\" \\+",
        "\\+ \""};

    public static void main(String[] args) throws IOException {
        methods();
        fieldsAndConstructors();
        classes();
        source(Files.readAllLines(Path.of("src/main/java/FountainPark.java")));
        Check.end();
    }

    private static void methods() {
        Set<String> face = new TreeSet<>();
        Set<String> publicNames = new TreeSet<>();
        List<String> privateNames = new ArrayList<>();
        for (Method method : FountainPark.class.getDeclaredMethods()) {
            if (Modifier.isPublic(method.getModifiers())) {
                face.add(written(method));
                publicNames.add(method.getName());
            } else {
                privateNames.add(method.getName());
                Check.due(method + " is private", 1, Modifier.isPrivate(method.getModifiers()) ? 1 : 0);
            }
        }
        Check.due("the face", new TreeSet<>(Arrays.asList(FACE)).toString(), face.toString());
        for (Class<?> inside : FountainPark.class.getDeclaredClasses()) {
            for (Method method : inside.getDeclaredMethods()) {
                privateNames.add(method.getName());
            }
        }
        privateNames.retainAll(publicNames);
        Check.due("private methods with public names", "[]", privateNames.toString());
    }

    private static String written(Method method) {
        String parameters = Arrays.stream(method.getParameterTypes()).map(Class::getName)
                .collect(Collectors.joining(", "));
        String thrown = Arrays.stream(method.getExceptionTypes()).map(e -> " " + e.getSimpleName())
                .collect(Collectors.joining());
        return method.getReturnType().getName() + " " + method.getName() + "(" + parameters + ")" + thrown;
    }

    private static void fieldsAndConstructors() {
        for (Field field : FountainPark.class.getDeclaredFields()) {
            boolean isConstant = field.getName().equals("NONE");
            Check.due(field + " is seen", isConstant ? Modifier.PUBLIC : Modifier.PRIVATE,
                    field.getModifiers() & (Modifier.PUBLIC | Modifier.PRIVATE | Modifier.PROTECTED));
        }
        Check.due("constructors", 1, FountainPark.class.getDeclaredConstructors().length);
        Check.due("public constructors", 1, FountainPark.class.getConstructors().length);
        Check.due("the class", Modifier.PUBLIC | Modifier.FINAL, FountainPark.class.getModifiers());
    }

    private static void classes() {
        List<Class<?>> all = new ArrayList<>(Arrays.asList(FountainPark.class.getDeclaredClasses()));
        for (Class<?> inside : all) {
            Check.due(inside + " is static", 1, Modifier.isStatic(inside.getModifiers()) ? 1 : 0);
            Check.due(inside + " is not public", 0,
                    inside.getModifiers() & (Modifier.PUBLIC | Modifier.PROTECTED));
        }
        all.add(FountainPark.class);
        Check.due("at most 12 classes", 1, all.size() <= 12 ? 1 : 0);
        for (Class<?> each : all) {
            long own = Arrays.stream(each.getDeclaredFields()).filter(f -> !Modifier.isStatic(f.getModifiers()))
                    .count();
            Check.due(each + " has at most 20 fields", 1, own <= 20 ? 1 : 0);
            for (Field field : each.getDeclaredFields()) {
                if (Modifier.isStatic(field.getModifiers())) {
                    Check.due(field + " is final", 1, Modifier.isFinal(field.getModifiers()) ? 1 : 0);
                }
            }
            for (Method method : each.getDeclaredMethods()) {
                Check.due(method + " has at most 7 parameters", 1, method.getParameterCount() <= 7 ? 1 : 0);
            }
        }
    }

    private static void source(List<String> lines) {
        for (int i = 0; i < lines.size(); i++) {
            String line = lines.get(i);
            boolean isComment = line.strip().startsWith("*") || line.strip().startsWith("/");
            for (String word : isComment ? new String[0] : NOT_IN_THE_LANGUAGE) {
                Matcher matcher = Pattern.compile(word).matcher(line);
                Check.due("line " + (i + 1) + " has " + word, 0, matcher.find() ? 1 : 0);
            }
            Check.due("line " + (i + 1) + " is of plain characters", 1, line.matches("[ -~]*") ? 1 : 0);
            if (line.matches("( {4}| {8})[^ *}@/].*\\(.*") && !line.endsWith(";")) {
                String end = line.substring(0, line.indexOf(line.strip())) + "}";
                int last = i;
                while (last < lines.size() - 1 && !lines.get(last).startsWith(end)) {
                    last++;
                }
                Check.due("what begins in line " + (i + 1) + " has at most 60 lines", 1, last - i < 60 ? 1 : 0);
            }
        }
    }
}
