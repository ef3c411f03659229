import java.lang.reflect.Constructor;
import java.lang.reflect.Field;
import java.lang.reflect.Method;
import java.lang.reflect.Modifier;
import java.nio.file.Files;
import java.nio.file.Path;
import java.util.ArrayList;
import java.util.Arrays;
import java.util.List;
import java.util.TreeSet;
import java.util.regex.Pattern;
import java.util.stream.Collectors;

/** The class has the face that the document tells, and nothing else that can be seen. */
public final class FaceTest {
    private static final Pattern FORBIDDEN = Pattern.compile("->|::|static \\{|System\\.(?!arraycopy)|Exact\\("
        + "|\\b(try|catch|finally|synchronized|assert|instanceof|protected|float|double)\\b");

    public static void main(String[] args) throws Exception {
        List<String> wrong = new ArrayList<>();
        TreeSet<String> due = due();
        TreeSet<String> got = got();
        for (String line : due) {
            if (!got.contains(line)) {
                wrong.add("missing: " + line);
            }
        }
        for (String line : got) {
            if (!due.contains(line)) {
                wrong.add("not in the document: " + line);
            }
        }
        wrong.addAll(hidden());
        wrong.addAll(forbidden());
        wrong.forEach(System.out::println);
        System.out.println("FaceTest: " + (wrong.isEmpty() ? "all is as due" : wrong.size() + " are not as due"));
        if (!wrong.isEmpty()) {
            System.exit(1);
        }
    }

    private static TreeSet<String> due() throws Exception {
        TreeSet<String> due = new TreeSet<>();
        for (String row : Files.readAllLines(Path.of("../shared/DOC.md"))) {
            String line = row.trim();
            if (line.startsWith("public int ") || line.startsWith("public long ") || line.startsWith("public boolean ")) {
                due.add(line.replaceAll("(int|long|boolean) [a-z]+([,)])", "$1$2").replace(";", ""));
            }
        }
        due.add("public RepeatFree()");
        due.add("NONE -1");
        due.add("CUT -2");
        if (due.size() != 54) {
            throw new AssertionError("the document's face is not understood: " + due.size());
        }
        return due;
    }

    private static TreeSet<String> got() throws Exception {
        TreeSet<String> got = new TreeSet<>();
        for (Method method : RepeatFree.class.getDeclaredMethods()) {
            if (isSeen(method.getModifiers())) {
                got.add("public " + method.getReturnType() + " " + method.getName() + "("
                    + names(method.getParameterTypes()) + ")" + thrown(method.getExceptionTypes()));
            }
        }
        for (Constructor<?> constructor : RepeatFree.class.getDeclaredConstructors()) {
            got.add("public RepeatFree(" + names(constructor.getParameterTypes()) + ")");
        }
        for (Field field : RepeatFree.class.getDeclaredFields()) {
            if (isSeen(field.getModifiers())) {
                got.add(field.getName() + " " + field.get(null));
            }
        }
        return got;
    }

    private static String names(Class<?>[] types) {
        return Arrays.stream(types).map(Class::getSimpleName).collect(Collectors.joining(", "));
    }

    private static String thrown(Class<?>[] types) {
        return types.length == 0 ? "" : " throws " + names(types);
    }

    private static boolean isSeen(int modifiers) {
        return !Modifier.isPrivate(modifiers);
    }

    /** What LANGUAGE.md has no place for, looked for in the lines of the class that are no comments. */
    private static List<String> forbidden() throws Exception {
        List<String> wrong = new ArrayList<>();
        for (String row : Files.readAllLines(Path.of("src/main/java/RepeatFree.java"))) {
            String line = row.trim();
            boolean comment = line.startsWith("//") || line.startsWith("*") || line.startsWith("/**");
            boolean imported = line.startsWith("import ") && !line.equals("import java.util.NoSuchElementException;");
            if (!comment && (imported || FORBIDDEN.matcher(line).find())) {
                wrong.add("not in the language: " + line);
            }
        }
        return wrong;
    }

    /** No private method bears a public one's name; the class is final; static fields are final constants. */
    private static List<String> hidden() {
        List<String> wrong = new ArrayList<>();
        TreeSet<String> face = new TreeSet<>();
        for (Method method : RepeatFree.class.getDeclaredMethods()) {
            if (isSeen(method.getModifiers()) && !face.add(method.getName())) {
                wrong.add("twice: " + method.getName());
            }
        }
        List<Class<?>> all = new ArrayList<>(List.of(RepeatFree.class.getDeclaredClasses()));
        all.add(RepeatFree.class);
        for (Class<?> type : all) {
            if (type != RepeatFree.class && !Modifier.isStatic(type.getModifiers())) {
                wrong.add("not static: " + type);
            }
            for (Method method : type.getDeclaredMethods()) {
                boolean open = type == RepeatFree.class && isSeen(method.getModifiers());
                if (!open && face.contains(method.getName())) {
                    wrong.add("named like one of the face: " + method);
                }
                if (method.getParameterCount() > 7) {
                    wrong.add("more than seven parameters: " + method);
                }
            }
            for (Field field : type.getDeclaredFields()) {
                if (Modifier.isStatic(field.getModifiers()) && !Modifier.isFinal(field.getModifiers())) {
                    wrong.add("not final: " + field);
                }
            }
        }
        if (!Modifier.isFinal(RepeatFree.class.getModifiers()) || all.size() > 12) {
            wrong.add("the class is not final, or has too many inside");
        }
        return wrong;
    }
}
