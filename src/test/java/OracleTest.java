import java.lang.reflect.Method;
import java.lang.reflect.Modifier;
import java.util.ArrayList;
import java.util.Comparator;
import java.util.List;

/** Long runs of calls, like chance, on the class and on what the document's words say plainly. */
public final class OracleTest {
    private static final int RUNS = 400;
    // a text takes up to 25 calls more, and no object is asked more than 512 times
    private static final int CALLS = 480;
    private static final int[] EDGES = {Integer.MIN_VALUE, Integer.MAX_VALUE, -3, -2, -1, 0, 1, 2, 3, 4, 5, 6, 7, 12, 13,
        39, 40, 41, 63, 64, 65, 99, 100, 400, 401};

    private final Chance chance;
    private final RepeatFree program = new RepeatFree();
    private final Naive due = new Naive();
    private final List<String> told = new ArrayList<>();
    private int letters = 2;
    private int maps = 0;
    private int patterns = 0;
    private boolean wrong = false;

    private OracleTest(long seed) {
        chance = new Chance(seed);
    }

    public static void main(String[] args) {
        int runs = args.length > 0 ? Integer.parseInt(args[0]) : RUNS;
        int from = args.length > 1 ? Integer.parseInt(args[1]) : 1;
        int failed = 0;
        for (int seed = from; seed < from + runs && failed < 5; seed++) {
            OracleTest test = new OracleTest(seed);
            if (!test.holds()) {
                failed++;
                System.out.println("run " + seed + ":");
                List<String> told = test.told;
                for (String line : told.subList(Math.max(0, told.size() - 25), told.size())) {
                    System.out.println("  " + line);
                }
            }
        }
        System.out.println(failed == 0 ? runs + " runs like chance are as due" : failed + " runs are not as due");
        if (failed != 0) {
            System.exit(1);
        }
    }

    private static List<Method> face() {
        List<Method> methods = new ArrayList<>();
        for (Method method : RepeatFree.class.getDeclaredMethods()) {
            if (Modifier.isPublic(method.getModifiers())) {
                methods.add(method);
            }
        }
        methods.sort(Comparator.comparing(Method::getName));
        return methods;
    }

    private boolean holds() {
        List<Method> face = face();
        int calls = 0;
        while (calls < CALLS && !wrong) {
            int before = told.size();
            if (calls == 0 || chance.once(60)) {
                putText(chance.once(4) ? spoilt(text()) : text());
                same("read");
                same("fault");
            } else if (chance.once(25)) {
                putText(chance.once(5) ? spoilt(word()) : word());
                same("word");
                same("fault");
            } else if (chance.once(3)) {
                same("push", chance.below(letters));
            } else {
                Method method = face.get(chance.below(face.size()));
                same(method.getName(), numbers(method));
            }
            calls += told.size() - before;
        }
        return !wrong;
    }

    private void same(String name, long... numbers) {
        String mine = Ask.of(program, name, numbers);
        String its = Ask.of(due, name, numbers);
        StringBuilder line = new StringBuilder(name).append('(');
        for (int i = 0; i < numbers.length; i++) {
            line.append(i > 0 ? ", " : "").append(numbers[i]);
        }
        line.append(") answered ").append(mine);
        if (!mine.equals(its)) {
            line.append(", due is ").append(its);
            wrong = true;
        }
        told.add(line.toString());
        if (name.equals("read") && !mine.startsWith("throws")) {
            letters = due.count(0);
            maps = due.count(1);
            patterns = due.count(2);
        }
    }

    private long[] numbers(Method method) {
        Class<?>[] types = method.getParameterTypes();
        String name = method.getName();
        long[] numbers = new long[types.length];
        for (int i = 0; i < numbers.length; i++) {
            numbers[i] = number(name, i);
            if (types[i] == boolean.class) {
                numbers[i] = chance.below(2);
            } else if (types[i] == long.class && chance.once(8)) {
                numbers[i] = chance.once(2) ? Long.MIN_VALUE + chance.below(3) : Long.MAX_VALUE - chance.below(3);
            }
        }
        return numbers;
    }

    private long number(String name, int index) {
        if (chance.once(15)) {
            return EDGES[chance.below(EDGES.length)];
        }
        boolean ofMap = List.of("image", "imaged", "length", "power", "often", "keeps", "breaks", "grows", "uniform",
            "fill", "sources", "code").contains(name);
        boolean ofPattern = List.of("met", "cannot", "loose", "pattern", "avoid", "whole").contains(name);
        if (index == 0 && ofMap) {
            return chance.below(Math.max(1, maps));
        }
        if (index == 0 && ofPattern) {
            return chance.below(Math.max(1, patterns));
        }
        if (index == 1 && ofMap && !name.equals("keeps") && !name.equals("breaks") || index == 3) {
            return name.equals("power") && index == 3 ? chance.below(60) : chance.below(letters);
        }
        switch (name) {
            case "limit":
                return index == 0 ? chance.below(3) : 1 + chance.below(index == 1 ? 14 : 7);
            case "fill":
                return 1 + chance.below(64);
            case "length": case "often": case "power":
                return chance.below(13);
            case "first": case "nth": case "many": case "growth": case "stuck":
                return index == 1 ? chance.below(30) : chance.below(chance.once(3) ? 41 : 9);
            case "letter": case "factors": case "local":
                return chance.below(1 + due.count(4));
            case "feed":
                return chance.below(1 << 30) - chance.below(1 << 30);
            case "greatest": case "run": case "met": case "pattern": case "whole":
                return chance.below(index == 1 && name.equals("whole") || index == 0 ? 9 : 4) - 1;
            default:
                return chance.below(9) - 1;
        }
    }

    private void putText(String text) {
        same("end", 0);
        for (long[] numbers : Ask.feeds(text)) {
            same("feed", numbers);
        }
        same("end", text.length());
    }

    private String blank() {
        return chance.once(12) ? chance.one("  ", "\t", "\n", " \n\t ") : "";
    }

    private String word() {
        String alphabet = "abcd".substring(0, letters);
        int size = chance.once(6) ? 56 + chance.below(10) : chance.below(20);
        String w = chance.letters(alphabet, size);
        if (chance.once(2)) {
            String part = chance.letters(alphabet, 1 + chance.below(7));
            w = part.repeat(70 / part.length()).substring(0, Math.min(size, 62)) + chance.letters(alphabet, chance.below(3));
        }
        return blank() + w + blank();
    }

    private String text() {
        int n = 2 + chance.below(3);
        String alphabet = "abcd".substring(0, n);
        List<String> lines = new ArrayList<>();
        List<String> names = new ArrayList<>();
        for (String name : new String[] {"p", "map", "ab", "x", "letter", "mm", "unders", "over", "qqqqqq", "zz"}) {
            names.add(name);
        }
        names.remove("map");
        names.remove("over");
        StringBuilder made = new StringBuilder(blank() + "letters" + blank() + " " + n + blank() + ";");
        int rows = chance.once(4) ? chance.below(4) : 2 + chance.below(10);
        String patternNames = "";
        boolean limited = false;
        int mapCount = 0;
        int patternCount = 0;
        for (int row = 0; row < rows; row++) {
            made.append(blank());
            int which = chance.below(8);
            String name = names.isEmpty() ? "n" : names.get(chance.below(names.size()));
            if (which == 0 && !limited) {
                limited = true;
                int below = 1 + chance.below(4);
                int above = chance.once(8) ? 1 + chance.below(99) : below + 1 + chance.below(below + 1);
                made.append("limit ").append(chance.one("under", "upto")).append(' ').append(blank()).append(above)
                    .append(chance.one(" ", "", "\n")).append("over").append(chance.one(" ", "")).append(below);
            } else if (which < 4 && mapCount < 4) {
                mapCount++;
                made.append("map ").append(name);
                names.remove(name);
                int size = 1 + chance.below(chance.once(3) ? 6 : 3);
                boolean uniform = chance.once(2);
                for (int c = 0; c < n; c++) {
                    String letter = alphabet.substring(c, c + 1);
                    String image = chance.letters(alphabet, uniform ? size : 1 + chance.below(size));
                    if (chance.once(2)) {
                        image = letter + image.substring(1);
                    }
                    made.append(' ').append(letter).append(chance.one(" ", "  ", "\t")).append(image);
                }
            } else if (patternCount < 4 && which < 7) {
                patternCount++;
                made.append("pattern ").append(name).append(' ').append(
                    chance.letters(chance.one("xyz", "xy", "x", "xyz"), 1 + chance.below(6)));
                names.remove(name);
                patternNames = name;
                if (chance.once(4)) {
                    made.append(";avoid ").append(patternNames);
                }
            } else {
                continue;
            }
            made.append(blank()).append(';').append(blank());
        }
        String text = made.toString();
        return text.length() <= 400 ? text : text.substring(0, 400);
    }

    private String spoilt(String text) {
        StringBuilder made = new StringBuilder(text);
        int faults = 1 + chance.below(2);
        for (int i = 0; i < faults && made.length() > 0; i++) {
            int at = chance.below(made.length());
            switch (chance.below(5)) {
                case 0:
                    made.deleteCharAt(at);
                    break;
                case 1:
                    made.setCharAt(at, (char) chance.below(256));
                    break;
                case 2:
                    made.insert(at, chance.one(";", " ", "a", "x", "7", "limit", "map ", "avoid p;", "0", "letters 2;", "w"));
                    break;
                case 3:
                    made.setLength(at);
                    break;
                default:
                    int to = Math.min(made.length(), at + 1 + chance.below(40));
                    made.insert(to, made.substring(at, to));
                    break;
            }
        }
        return made.length() <= 400 ? made.toString() : made.substring(0, 400);
    }
}
