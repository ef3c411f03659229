import java.lang.reflect.Field;
import java.lang.reflect.Modifier;
import java.nio.file.Files;
import java.nio.file.Path;
import java.util.ArrayList;
import java.util.List;
import java.util.Set;
import java.util.regex.Matcher;
import java.util.regex.Pattern;

/** Rules of LANGUAGE.md that can be looked up in the class's lines and fields; the others of them are in FaceTest. */
public final class LanguageTest {
    private static final Pattern HEAD = Pattern.compile("(    |        )(?:(?:public|private|static|final) )*"
        + "(?:([a-z]+|[A-Z]\\w*)(\\[\\])* )?(\\w+)\\([^;]*");
    private static final Pattern THROWN = Pattern.compile("throw new (IllegalStateException|IllegalArgumentException"
        + "|IndexOutOfBoundsException|NoSuchElementException)\\(\\);");
    private static final Pattern USED = Pattern.compile("\\b([A-Z]\\w*[a-z]\\w*)\\.(\\w+)");
    private static final Set<String> LIBRARY = Set.of("Math.max", "Math.min");
    private static final Set<String> NUMBERS = Set.of("int", "long", "boolean", "int[]", "long[]", "int[][]", "long[][]");
    private static final Set<String> CONSTANTS = Set.of("int", "long", "boolean", "char", "String");
    private static final int MOST_LINES = 60, MOST_FIELDS = 20;

    private final List<String> wrong = new ArrayList<>();
    private final List<String> own = new ArrayList<>();

    public static void main(String[] args) throws Exception {
        LanguageTest test = new LanguageTest();
        test.fields();
        test.lines();
        test.wrong.forEach(System.out::println);
        System.out.println("LanguageTest: " + (test.wrong.isEmpty() ? "all is as due" : test.wrong.size() + " are not"));
        if (!test.wrong.isEmpty()) {
            System.exit(1);
        }
    }

    /** Rules 3, 5, 11: of which types the fields are, and how many of them a class has. */
    private void fields() {
        List<Class<?>> all = new ArrayList<>(List.of(RepeatFree.class.getDeclaredClasses()));
        all.add(RepeatFree.class);
        for (Class<?> type : all) {
            own.add(type.getSimpleName());
        }
        for (Class<?> type : all) {
            int fields = 0;
            for (Field field : type.getDeclaredFields()) {
                boolean constant = Modifier.isStatic(field.getModifiers());
                String name = field.getType().getSimpleName();
                boolean right = constant ? CONSTANTS.contains(name) && Modifier.isFinal(field.getModifiers())
                    : NUMBERS.contains(name) || own.contains(name.replace("[]", "")) && !name.endsWith("[][]");
                fields += constant ? 0 : 1;
                must(right, "of another type: " + field);
            }
            must(fields <= MOST_FIELDS, "more than twenty fields: " + type);
        }
    }

    /** Rules 2, 4, 6, 11, 12, and that objects are made in constructors alone. */
    private void lines() throws Exception {
        String end = "";
        int first = 0;
        boolean constructor = false;
        List<String> rows = Files.readAllLines(Path.of("src/main/java/RepeatFree.java"));
        int methods = 0;
        for (int i = 0; i < rows.size(); i++) {
            String row = rows.get(i);
            String line = row.trim();
            Matcher head = HEAD.matcher(row);
            if (line.startsWith("//") || line.startsWith("*") || line.startsWith("/**")) {
                continue;
            }
            if (end.isEmpty() && head.matches()) {
                methods++;
                end = head.group(1) + "}";
                first = i;
                constructor = head.group(2) == null;
                must(!constructor || own.contains(head.group(4)), "not understood: " + line);
            }
            of(line, constructor, !end.isEmpty());
            if (row.equals(end)) {
                must(i - first < MOST_LINES, "more than sixty lines: " + rows.get(first).trim());
                end = "";
                constructor = false;
            }
        }
        must(methods > 100, "the class's lines are not understood: " + methods + " methods");
    }

    private void of(String line, boolean constructor, boolean within) {
        if (line.contains("throw ")) {
            must(THROWN.matcher(line).matches() && !constructor, "thrown: " + line);
        } else if (line.contains("new ")) {
            must(constructor || !within, "made by a call: " + line);
        }
        Matcher used = USED.matcher(line);
        while (used.find() && !line.startsWith("import ")) {
            must(own.contains(used.group(1)) || LIBRARY.contains(used.group()), "not in the library: " + line);
        }
        must(line.chars().allMatch(sign -> sign > 0 && sign < 128), "a sign beyond 127: " + line);
        must(!within || !line.matches("(?:static |final )*(class|enum|record|interface) .*"), "a class in a method: " + line);
    }

    private void must(boolean right, String why) {
        if (!right) {
            wrong.add(why);
        }
    }
}
