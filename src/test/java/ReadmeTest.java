import java.lang.reflect.Method;
import java.lang.reflect.Modifier;
import java.nio.file.Files;
import java.nio.file.Path;
import java.util.ArrayList;
import java.util.List;
import java.util.regex.Matcher;
import java.util.regex.Pattern;

/** What README.md shows is so: its example answers as it tells, its way to put bytes works, it tells of every call. */
public final class ReadmeTest {
    private static final Pattern PUT = Pattern.compile("put\\(x, \"(.*)\"\\);");
    private static final Pattern CALL = Pattern.compile("x\\.([a-z]+)\\((.*)\\); +// ([-\\w.]+): .*");
    private final List<String> wrong = new ArrayList<>();
    private RepeatFree x = null;

    public static void main(String[] args) throws Exception {
        ReadmeTest test = new ReadmeTest();
        String page = Files.readString(Path.of("README.md"));
        test.shows(page);
        test.hasWay(page);
        test.tellsAll(page);
        test.wrong.forEach(System.out::println);
        System.out.println("ReadmeTest: " + (test.wrong.isEmpty() ? "all is as it tells" : "README.md is wrong"));
        if (!test.wrong.isEmpty()) {
            System.exit(1);
        }
    }

    private void shows(String page) {
        int asked = 0;
        for (String row : example(page)) {
            Matcher put = PUT.matcher(row);
            Matcher call = CALL.matcher(row);
            if (row.equals("RepeatFree x = new RepeatFree();")) {
                x = new RepeatFree();
            } else if (put.matches()) {
                put(x, put.group(1));
            } else if (call.matches()) {
                asked++;
                String got = Ask.of(x, call.group(1), numbers(call.group(2)));
                if (!got.equals(call.group(3))) {
                    wrong.add(row + " (it answers " + got + ")");
                }
            } else {
                wrong.add("not understood: " + row);
            }
        }
        if (asked == 0) {
            wrong.add("no example");
        }
    }

    private static String[] example(String page) {
        return page.split("```java\n")[2].split("```")[0].trim().split("\n");
    }

    private static long[] numbers(String told) {
        String[] parts = told.isEmpty() ? new String[0] : told.split(", ");
        long[] numbers = new long[parts.length];
        for (int i = 0; i < parts.length; i++) {
            numbers[i] = Long.parseLong(parts[i]);
        }
        return numbers;
    }

    /** The page's way to put bytes on the tape is the one below, line by line. */
    private void hasWay(String page) throws Exception {
        String way = page.split("```java\n")[1].split("```")[0].replaceAll("(?m)^ +", "");
        String mine = Files.readString(Path.of("src/test/java/ReadmeTest.java")).replaceAll("(?m)^ +", "");
        if (!mine.contains(way)) {
            wrong.add("put is another one than the one that is tried");
        }
    }

    static void put(RepeatFree x, String bytes) {
        x.end(0);
        for (int from = 0; from < bytes.length(); from += 20) {
            int[] n = new int[5];
            for (int i = 0; i < 20; i++) {
                n[i / 4] = n[i / 4] << 8 | (from + i < bytes.length() ? bytes.charAt(from + i) : 0);
            }
            x.feed(n[0], n[1], n[2], n[3], n[4]);
        }
        x.end(bytes.length());
    }

    /** Each call stands in the page with the promise's number that the document has for it. */
    private void tellsAll(String page) throws Exception {
        String document = Files.readString(Path.of("../shared/DOC.md"));
        for (Method method : RepeatFree.class.getDeclaredMethods()) {
            String name = method.getName();
            Matcher promise = Pattern.compile("## Promise (\\d+): " + name + "\n").matcher(document);
            if (Modifier.isPublic(method.getModifiers())
                    && (!promise.find() || !page.matches("(?s).*`" + name + "` " + promise.group(1) + "[, ].*"))) {
                wrong.add("not told: " + name);
            }
        }
    }
}
