import java.util.ArrayDeque;
import java.util.ArrayList;
import java.util.Arrays;
import java.util.Deque;
import java.util.HashMap;
import java.util.HashSet;
import java.util.List;
import java.util.Map;
import java.util.NoSuchElementException;
import java.util.Set;
import java.util.TreeSet;
import java.util.function.Consumer;
import java.util.regex.Matcher;
import java.util.regex.Pattern;

/**
 * The document's words put into Java as they stand, slowly and with all of the Java library: what the class
 * answers is compared with it. Nothing of it is taken from the class.
 */
public final class Naive {
    private static final int NONE = -1, CUT = -2;
    private static final Set<String> KEYWORDS =
        Set.of("letters", "limit", "under", "upto", "over", "map", "pattern", "avoid");

    private static final class CutShort extends RuntimeException {
        private static final long serialVersionUID = 1L;
    }

    private static final class Enough extends RuntimeException {
        private static final long serialVersionUID = 1L;
    }

    private static final class Fault extends RuntimeException {
        private static final long serialVersionUID = 1L;
        final int place;

        Fault(int place) {
            this.place = place;
        }
    }

    private List<Integer> tape = new ArrayList<>();
    private int letters = 2;
    private int kind = 0;
    private int above = 0;
    private int below = 0;
    private List<String[]> maps = new ArrayList<>();
    private List<String> patterns = new ArrayList<>();
    private Set<Integer> avoided = new TreeSet<>();
    private String word = "";
    private Deque<String> acts = new ArrayDeque<>();
    private int fault = NONE;
    private int tries = 0;
    private Map<String, Boolean> known = new HashMap<>();

    // ---- tape

    public int feed(int a, int b, int c, int d, int e) {
        if (tape.size() > 380) {
            return NONE;
        }
        for (int number : new int[] {a, b, c, d, e}) {
            tape.add(number >> 24 & 255);
            tape.add(number >> 16 & 255);
            tape.add(number >> 8 & 255);
            tape.add(number & 255);
        }
        return tape.size();
    }

    public boolean end(int n) {
        if (n < 0 || n > tape.size()) {
            return false;
        }
        tape = new ArrayList<>(tape.subList(0, n));
        return true;
    }

    private String used() {
        StringBuilder text = new StringBuilder();
        for (int sign : tape) {
            text.append((char) sign);
        }
        tape = new ArrayList<>();
        return text.toString();
    }

    private static final class Text {
        private final String text;
        private final Matcher tokens;
        private int start = 0;
        private String token = "";

        Text(String text) {
            this.text = text;
            this.tokens = Pattern.compile("[a-z]+|[0-9]+|[^\t\n ]").matcher(text);
        }

        boolean more() {
            if (!tokens.find()) {
                start = text.length();
                token = "";
                return false;
            }
            start = tokens.start();
            token = tokens.group();
            return true;
        }

        String take(String regex) {
            more();
            return must(token.matches(regex));
        }

        String must(boolean right) {
            if (!right) {
                throw new Fault(start);
            }
            return token;
        }
    }

    public int read() throws IllegalArgumentException {
        Text text = new Text(used());
        Naive fresh = new Naive();
        fault = NONE;
        try {
            fresh.lines(text);
        } catch (Fault f) {
            fault = f.place;
        }
        if (fault != NONE) {
            throw new IllegalArgumentException();
        }
        letters = fresh.letters;
        kind = fresh.kind;
        above = fresh.above;
        below = fresh.below;
        maps = fresh.maps;
        patterns = fresh.patterns;
        avoided = fresh.avoided;
        word = "";
        acts = new ArrayDeque<>();
        known = new HashMap<>();
        return letters;
    }

    private void lines(Text text) {
        Map<String, Integer> names = new HashMap<>();
        text.take("letters");
        letters = Integer.parseInt(text.take("0?[234]"));
        text.take(";");
        while (text.more()) {
            String line = text.token;
            if (line.equals("limit")) {
                text.must(kind == 0);
                kind = text.take("under|upto").equals("under") ? 1 : 2;
                above = Integer.parseInt(text.take("[1-9][0-9]?|0[1-9]"));
                text.take("over");
                below = Integer.parseInt(text.take("0?[1-9]"));
            } else if (line.equals("map")) {
                text.must(maps.size() < 4);
                name(text, names, -1);
                String alphabet = "abcd".substring(0, letters);
                String[] images = new String[letters];
                for (int i = 0; i < letters; i++) {
                    text.take(alphabet.substring(i, i + 1));
                    images[i] = text.take("[" + alphabet + "]{1,6}");
                }
                maps.add(images);
            } else if (line.equals("pattern")) {
                text.must(patterns.size() < 4);
                name(text, names, patterns.size());
                patterns.add(text.take("[xyz]{1,6}"));
            } else {
                text.must(line.equals("avoid"));
                String name = text.take("[a-z]+");
                text.must(names.getOrDefault(name, -1) >= 0 && !avoided.contains(names.get(name)));
                avoided.add(names.get(name));
            }
            text.take(";");
        }
    }

    private void name(Text text, Map<String, Integer> names, int pattern) {
        String name = text.take("[a-z]{1,6}");
        text.must(!KEYWORDS.contains(name) && !names.containsKey(name));
        names.put(name, pattern);
    }

    public int word() throws IllegalArgumentException {
        String text = used();
        fault = NONE;
        int from = 0;
        while (from < text.length() && "\t\n ".indexOf(text.charAt(from)) >= 0) {
            from++;
        }
        int to = from;
        while (to < text.length() && text.charAt(to) >= 'a' && text.charAt(to) < 'a' + letters) {
            to++;
        }
        int rest = to;
        while (rest < text.length() && "\t\n ".indexOf(text.charAt(rest)) >= 0) {
            rest++;
        }
        if (to - from > 64) {
            fault = from + 64;
        } else if (rest < text.length()) {
            fault = rest;
        }
        if (fault != NONE) {
            throw new IllegalArgumentException();
        }
        become(text.substring(from, to));
        return word.length();
    }

    public int fault() {
        return fault;
    }

    // ---- the word

    private void become(String other) {
        acts.addLast(word);
        if (acts.size() > 10) {
            acts.removeFirst();
        }
        word = other;
    }

    private void must(boolean right) {
        if (!right) {
            throw new IllegalArgumentException();
        }
    }

    private void mustBe(boolean right) {
        if (!right) {
            throw new IllegalStateException();
        }
    }

    private void mustAsk(int what, int most) {
        if (what < 0 || what > most) {
            throw new NoSuchElementException();
        }
    }

    private void mustBeLetter(int letter) {
        must(letter >= 0 && letter < letters);
    }

    private String[] theMap(int map) {
        if (map < 0 || map >= maps.size()) {
            throw new IndexOutOfBoundsException();
        }
        return maps.get(map);
    }

    private String thePattern(int pattern) {
        if (pattern < 0 || pattern >= patterns.size()) {
            throw new IndexOutOfBoundsException();
        }
        return patterns.get(pattern);
    }

    private String told(int letter) {
        return "abcd".substring(letter, letter + 1);
    }

    public int letter(int place) {
        return place < 0 || place >= word.length() ? NONE : word.charAt(place) - 'a';
    }

    public int push(int letter) {
        mustBeLetter(letter);
        mustBe(word.length() < 64);
        become(word + told(letter));
        return word.length();
    }

    public int pop() {
        mustBe(!word.isEmpty());
        int last = word.charAt(word.length() - 1) - 'a';
        become(word.substring(0, word.length() - 1));
        return last;
    }

    public int undo() {
        if (acts.isEmpty()) {
            return NONE;
        }
        word = acts.removeLast();
        return acts.size();
    }

    private static boolean hasPeriod(String w, int p) {
        for (int i = p; i < w.length(); i++) {
            if (w.charAt(i) != w.charAt(i - p)) {
                return false;
            }
        }
        return true;
    }

    private static int least(String w) {
        int p = 1;
        while (!hasPeriod(w, p)) {
            p++;
        }
        return p;
    }

    private boolean beyond(String factor) {
        int p = least(factor);
        int n = factor.length();
        return kind == 1 ? n * below >= above * p : kind == 2 && n * below > above * p;
    }

    private static String regex(String pattern) {
        StringBuilder made = new StringBuilder();
        String seen = "";
        for (char c : pattern.toCharArray()) {
            int at = seen.indexOf(c);
            if (at < 0) {
                seen += c;
                made.append("(.+)");
            } else {
                made.append("\\").append(at + 1);
            }
        }
        return made.toString();
    }

    private boolean isFree(String w) {
        if (w.isEmpty()) {
            return true;
        }
        Boolean answer = known.get(w);
        if (answer == null) {
            answer = isFree(w.substring(0, w.length() - 1));
            for (int i = 0; i < w.length() && answer; i++) {
                answer = !beyond(w.substring(i));
            }
            for (int k : avoided) {
                answer = answer && !Pattern.compile(regex(patterns.get(k)) + "$").matcher(w).find();
            }
            if (known.size() < 200000) {
                known.put(w, answer);
            }
        }
        return answer;
    }

    public boolean free() {
        return isFree(word);
    }

    public int ends() {
        for (int n = 1; n <= word.length(); n++) {
            if (!isFree(word.substring(0, n))) {
                return n - 1;
            }
        }
        return NONE;
    }

    public int greatest(int what) {
        mustAsk(what, 2);
        int[] best = null;
        for (int i = 0; i < word.length(); i++) {
            for (int j = word.length(); j > i; j--) {
                int p = least(word.substring(i, j));
                if (best == null || (j - i) * best[1] > best[0] * p) {
                    best = new int[] {j - i, p, i};
                }
            }
        }
        return best == null ? NONE : best[what];
    }

    public int period() {
        return word.isEmpty() ? NONE : least(word);
    }

    public int border(int k) {
        List<Integer> borders = new ArrayList<>();
        for (int n = word.length() - 1; n > 0; n--) {
            if (word.endsWith(word.substring(0, n))) {
                borders.add(n);
            }
        }
        return k < 0 || k >= borders.size() ? NONE : borders.get(k);
    }

    public int run(int k, int what) {
        mustAsk(what, 2);
        List<int[]> runs = new ArrayList<>();
        int n = word.length();
        for (int i = 0; i < n; i++) {
            for (int p = 1; p <= n; p++) {
                for (int j = i + 2 * p; j <= n; j++) {
                    String w = word.substring(i, j);
                    if (hasPeriod(w, p) && least(w) == p
                            && (i == 0 || !hasPeriod(word.substring(i - 1, j), p))
                            && (j == n || !hasPeriod(word.substring(i, j + 1), p))) {
                        runs.add(new int[] {i, j - i, p});
                    }
                }
            }
        }
        return k == NONE ? runs.size() : k < 0 || k >= runs.size() ? NONE : runs.get(k)[what];
    }

    public int factors(int n) {
        must(n >= 1 && n <= 64);
        Set<String> unlike = new HashSet<>();
        for (int i = 0; i + n <= word.length(); i++) {
            unlike.add(word.substring(i, i + n));
        }
        return unlike.size();
    }

    public int mirror() {
        int most = 0;
        for (int i = 0; i < word.length(); i++) {
            for (int j = i + 1; j <= word.length(); j++) {
                String w = word.substring(i, j);
                if (new StringBuilder(w).reverse().toString().equals(w)) {
                    most = Math.max(most, j - i);
                }
            }
        }
        return most;
    }

    private static String filled(String pattern, String text, int x, int y, int z) {
        String[] words = new String[3];
        int[] sizes = {x, y, z};
        int at = 0;
        StringBuilder made = new StringBuilder();
        for (char c : pattern.toCharArray()) {
            int v = c - 'x';
            if (words[v] == null) {
                if (at + sizes[v] > text.length()) {
                    return null;
                }
                words[v] = text.substring(at, at + sizes[v]);
            }
            made.append(words[v]);
            at += sizes[v];
            if (at > text.length()) {
                return null;
            }
        }
        return made.toString();
    }

    private List<int[]> allSizes(String pattern, String text, boolean all) {
        List<int[]> found = new ArrayList<>();
        int n = text.length();
        for (int x = pattern.contains("x") ? 1 : 0; x <= (pattern.contains("x") ? n : 0); x++) {
            for (int y = pattern.contains("y") ? 1 : 0; y <= (pattern.contains("y") ? n - x : 0); y++) {
                for (int z = pattern.contains("z") ? 1 : 0; z <= (pattern.contains("z") ? n - x - y : 0); z++) {
                    String made = filled(pattern, text, x, y, z);
                    if (made != null && (all ? text.equals(made) : text.startsWith(made))) {
                        found.add(new int[] {x, y, z});
                    }
                }
            }
        }
        return found;
    }

    public int met(int pattern, int what) {
        String p = thePattern(pattern);
        mustAsk(what, 3);
        Matcher matcher = Pattern.compile(regex(p)).matcher(word);
        if (!matcher.find()) {
            return NONE;
        }
        return what == 0 ? matcher.start() : allSizes(p, word.substring(matcher.start()), false).get(0)[what - 1];
    }

    public int goes() {
        int bits = 0;
        for (int c = 0; c < letters; c++) {
            if (word.length() < 64 && isFree(word + told(c))) {
                bits |= 1 << c;
            }
        }
        return bits;
    }

    public int ahead() {
        int bits = 0;
        for (int c = 0; c < letters; c++) {
            if (word.length() < 64 && isFree(told(c) + word)) {
                bits |= 1 << c;
            }
        }
        return bits;
    }

    // ---- searches

    private void seek(String begun, int n, Consumer<String> found) {
        if (begun.length() == n) {
            found.accept(begun);
            return;
        }
        for (int c = 0; c < letters; c++) {
            tryOne();
            if (isFree(begun + told(c))) {
                seek(begun + told(c), n, found);
            }
        }
    }

    private void tryOne() {
        if (tries == 5000) {
            throw new CutShort();
        }
        tries++;
    }

    /** Null: there is none. */
    private String theFirst(String begun, int n, int k) {
        List<String> found = new ArrayList<>();
        try {
            seek(begun, n, w -> {
                found.add(w);
                if (found.size() > k) {
                    throw new Enough();
                }
            });
        } catch (Enough e) {
            return found.get(k);
        }
        return null;
    }

    public int further() {
        if (!isFree(word)) {
            return 0;
        }
        try {
            for (int more = 1; more <= 20 && word.length() + more <= 64; more++) {
                tries = 0;
                if (theFirst(word, word.length() + more, 0) == null) {
                    return more - 1;
                }
            }
        } catch (CutShort e) {
            return CUT;
        }
        return Math.min(20, 64 - word.length());
    }

    public int longest() {
        try {
            for (int n = 1; n <= 40; n++) {
                tries = 0;
                if (theFirst("", n, 0) == null) {
                    return n - 1;
                }
            }
        } catch (CutShort e) {
            return CUT;
        }
        return 40;
    }

    public int first(int n) {
        return nth(n, 0);
    }

    public int nth(int n, int k) {
        must(n >= 1 && n <= 40 && k >= 0);
        tries = 0;
        try {
            String w = theFirst("", n, k);
            if (w == null) {
                return NONE;
            }
            become(w);
            return tries;
        } catch (CutShort e) {
            return CUT;
        }
    }

    public int next() {
        mustBe(word.length() <= 40);
        tries = 0;
        try {
            for (int place = word.length() - 1; place >= 0; place--) {
                String ahead = word.substring(0, place);
                if (!isFree(ahead)) {
                    continue;
                }
                for (int c = word.charAt(place) - 'a' + 1; c < letters; c++) {
                    tryOne();
                    String begun = ahead + told(c);
                    String w = isFree(begun) ? theFirst(begun, word.length(), 0) : null;
                    if (w != null) {
                        become(w);
                        return place;
                    }
                }
            }
        } catch (CutShort e) {
            return CUT;
        }
        return NONE;
    }

    private List<String> allFree(int n) {
        tries = 0;
        List<String> found = new ArrayList<>();
        seek("", n, found::add);
        return found;
    }

    public int many(int n) {
        must(n >= 0 && n <= 40);
        try {
            return allFree(n).size();
        } catch (CutShort e) {
            return CUT;
        }
    }

    public int growth(int n) {
        must(n >= 0 && n <= 39);
        try {
            int one = allFree(n).size();
            return one == 0 ? NONE : 1000 * allFree(n + 1).size() / one;
        } catch (CutShort e) {
            return CUT;
        }
    }

    public int stuck(int n) {
        must(n >= 0 && n <= 40);
        int stuck = 0;
        try {
            for (String w : allFree(n)) {
                boolean goes = false;
                for (int c = 0; c < letters; c++) {
                    goes = goes || isFree(w + told(c));
                }
                stuck += goes ? 0 : 1;
            }
        } catch (CutShort e) {
            return CUT;
        }
        return stuck;
    }

    public int rank() {
        mustBe(word.length() <= 40);
        List<String> less = new ArrayList<>();
        tries = 0;
        try {
            seek("", word.length(), w -> {
                if (w.compareTo(word) >= 0) {
                    throw new Enough();
                }
                less.add(w);
            });
        } catch (Enough e) {
            return less.size();
        } catch (CutShort e) {
            return CUT;
        }
        return less.size();
    }

    // ---- maps

    private static String imageOf(String[] map, String w) {
        StringBuilder made = new StringBuilder();
        for (char c : w.toCharArray()) {
            made.append(map[c - 'a']);
        }
        return made.toString();
    }

    public int image(int map) {
        String made = imageOf(theMap(map), word);
        mustBe(made.length() <= 64);
        become(made);
        return made.length();
    }

    public int imaged(int map, int letter, int k) {
        String[] m = theMap(map);
        mustBeLetter(letter);
        String w = m[letter];
        return k == NONE ? w.length() : k < 0 || k >= w.length() ? NONE : w.charAt(k) - 'a';
    }

    /** How many of each LETTER a POWER has. */
    private long[] parts(String[] map, int letter, int k) {
        long[] parts = new long[letters];
        parts[letter] = 1;
        for (int i = 0; i < k; i++) {
            long[] after = new long[letters];
            for (int c = 0; c < letters; c++) {
                for (char d : map[c].toCharArray()) {
                    after[d - 'a'] += parts[c];
                }
            }
            parts = after;
        }
        return parts;
    }

    public long length(int map, int letter, int k) {
        String[] m = theMap(map);
        mustBeLetter(letter);
        must(k >= 0 && k <= 12);
        return Arrays.stream(parts(m, letter, k)).sum();
    }

    public int power(int map, int letter, int k, long place) {
        String[] m = theMap(map);
        mustBeLetter(letter);
        must(k >= 0 && k <= 12);
        long all = length(map, letter, k);
        if (place < 0 || place >= all) {
            return NONE;
        }
        if (all <= 100000) {
            String w = told(letter);
            for (int i = 0; i < k; i++) {
                w = imageOf(m, w);
            }
            return w.charAt((int) place) - 'a';
        }
        long left = place;
        for (char c : m[letter].toCharArray()) {
            long part = length(map, c - 'a', k - 1);
            if (left < part) {
                return power(map, c - 'a', k - 1, left);
            }
            left -= part;
        }
        throw new AssertionError();
    }

    public long often(int map, int letter, int k, int which) {
        String[] m = theMap(map);
        mustBeLetter(letter);
        must(k >= 0 && k <= 12);
        mustBeLetter(which);
        return parts(m, letter, k)[which];
    }

    private int breaker(String[] map, int n) {
        tries = 0;
        String[] breaker = {null};
        try {
            for (int size = 1; size <= n; size++) {
                seek("", size, w -> {
                    if (!isFree(imageOf(map, w))) {
                        breaker[0] = w;
                        throw new Enough();
                    }
                });
            }
        } catch (Enough e) {
            int number = 0;
            for (char c : breaker[0].toCharArray()) {
                number = 10 * number + c - 'a' + 1;
            }
            return number;
        } catch (CutShort e) {
            return CUT;
        }
        return NONE;
    }

    public int keeps(int map, int n) {
        String[] m = theMap(map);
        must(n >= 1 && n <= 6);
        int breaker = breaker(m, n);
        return breaker == CUT ? CUT : breaker == NONE ? 1 : 0;
    }

    public int breaks(int map, int n) {
        String[] m = theMap(map);
        must(n >= 1 && n <= 6);
        return breaker(m, n);
    }

    private boolean growsFrom(String[] map, int letter) {
        return map[letter].startsWith(told(letter)) && map[letter].length() > 1;
    }

    public int grows(int map) {
        String[] m = theMap(map);
        int bits = 0;
        for (int c = 0; c < letters; c++) {
            bits |= growsFrom(m, c) ? 1 << c : 0;
        }
        return bits;
    }

    public int uniform(int map) {
        Set<Integer> sizes = new HashSet<>();
        for (String w : theMap(map)) {
            sizes.add(w.length());
        }
        return sizes.size() == 1 ? sizes.iterator().next() : NONE;
    }

    public int fill(int map, int letter, int n) {
        String[] m = theMap(map);
        mustBeLetter(letter);
        must(n >= 1 && n <= 64);
        mustBe(growsFrom(m, letter));
        String w = told(letter);
        while (w.length() < n) {
            String more = imageOf(m, w);
            w = more.substring(0, Math.min(more.length(), 400));
        }
        become(w.substring(0, n));
        return ends();
    }

    public long sources(int map) {
        String[] m = theMap(map);
        long[] ways = new long[word.length() + 1];
        ways[word.length()] = 1;
        for (int i = word.length() - 1; i >= 0; i--) {
            for (String w : m) {
                if (word.startsWith(w, i)) {
                    ways[i] += ways[i + w.length()];
                }
            }
        }
        return ways[0];
    }

    /** By what of the one word's IMAGE is over, all such rests being gathered until none is new. */
    public boolean code(int map) {
        List<String> images = Arrays.asList(theMap(map));
        if (new HashSet<>(images).size() < images.size()) {
            return false;
        }
        Deque<String> open = new ArrayDeque<>();
        Set<String> seen = new HashSet<>();
        for (String one : images) {
            for (String other : images) {
                if (!one.equals(other) && one.startsWith(other)) {
                    open.add(one.substring(other.length()));
                }
            }
        }
        while (!open.isEmpty()) {
            String rest = open.remove();
            if (images.contains(rest)) {
                return false;
            }
            if (!seen.add(rest)) {
                continue;
            }
            for (String image : images) {
                if (rest.startsWith(image)) {
                    open.add(rest.substring(image.length()));
                } else if (image.startsWith(rest)) {
                    open.add(image.substring(rest.length()));
                }
            }
        }
        return true;
    }

    // ---- patterns

    private static String without(String pattern, int set) {
        String left = pattern;
        for (int v = 0; v < 3; v++) {
            if ((set >> v & 1) != 0) {
                left = left.replace("xyz".substring(v, v + 1), "");
            }
        }
        return left;
    }

    private static int bits(String pattern) {
        int bits = 0;
        for (char c : pattern.toCharArray()) {
            bits |= 1 << (c - 'x');
        }
        return bits;
    }

    private static boolean isLoose(String pattern, int set) {
        boolean[][] joined = new boolean[6][6];
        for (int i = 0; i + 1 < pattern.length(); i++) {
            int left = pattern.charAt(i) - 'x';
            int right = 3 + pattern.charAt(i + 1) - 'x';
            joined[left][right] = true;
            joined[right][left] = true;
        }
        for (int k = 0; k < 6; k++) {
            for (int i = 0; i < 6; i++) {
                for (int j = 0; j < 6; j++) {
                    joined[i][j] |= joined[i][k] && joined[k][j];
                }
            }
        }
        for (int u = 0; u < 3; u++) {
            for (int v = 0; v < 3; v++) {
                if ((set >> u & 1) != 0 && (set >> v & 1) != 0 && joined[u][3 + v]) {
                    return false;
                }
            }
        }
        return true;
    }

    private static boolean cannotAvoid(String pattern) {
        if (pattern.length() == 1) {
            return true;
        }
        for (int set = 1; set < 8; set++) {
            if ((set & ~bits(pattern)) == 0 && set != bits(pattern) && isLoose(pattern, set)
                    && cannotAvoid(without(pattern, set))) {
                return true;
            }
        }
        return false;
    }

    public boolean cannot(int pattern) {
        return cannotAvoid(thePattern(pattern));
    }

    public int loose(int pattern, int k) {
        String p = thePattern(pattern);
        List<Integer> sets = new ArrayList<>();
        for (int set = 1; set < 8; set++) {
            if ((set & ~bits(p)) == 0 && isLoose(p, set)) {
                sets.add(set);
            }
        }
        return k == NONE ? sets.size() : k < 0 || k >= sets.size() ? NONE : sets.get(k);
    }

    public int pattern(int pattern, int what) {
        String p = thePattern(pattern);
        mustAsk(what, 2);
        return new int[] {p.length(), bits(p), avoided.contains(pattern) ? 1 : 0}[what];
    }

    public int whole(int pattern, int k, int what) {
        String p = thePattern(pattern);
        mustAsk(what, 2);
        List<int[]> sizes = allSizes(p, word, true);
        return k == NONE ? sizes.size() : k < 0 || k >= sizes.size() ? NONE : sizes.get(k)[what];
    }

    public int limit(int kind, int above, int below) {
        must(kind >= 0 && kind <= 2 && above >= 1 && above <= 99 && below >= 1 && below <= 9);
        int was = this.kind;
        this.kind = kind;
        this.above = kind == 0 ? 0 : above;
        this.below = kind == 0 ? 0 : below;
        known = new HashMap<>();
        return was;
    }

    public boolean avoid(int pattern, boolean is) {
        thePattern(pattern);
        boolean was = avoided.contains(pattern);
        if (is) {
            avoided.add(pattern);
        } else {
            avoided.remove(pattern);
        }
        known = new HashMap<>();
        return was;
    }

    // ---- the word in order

    private static boolean isLyndon(String w) {
        for (int i = 1; i < w.length(); i++) {
            if (w.substring(i).compareTo(w) <= 0) {
                return false;
            }
        }
        return true;
    }

    public int lyndon(int k) {
        List<Integer> sizes = new ArrayList<>();
        for (int from = 0; from < word.length();) {
            int to = word.length();
            while (!isLyndon(word.substring(from, to))) {
                to--;
            }
            sizes.add(to - from);
            from = to;
        }
        return k == NONE ? sizes.size() : k < 0 || k >= sizes.size() ? NONE : sizes.get(k);
    }

    public int turned() {
        int best = NONE;
        String least = null;
        for (int i = 0; i < word.length(); i++) {
            String turn = word.substring(i) + word.substring(0, i);
            if (least == null || turn.compareTo(least) < 0) {
                least = turn;
                best = i;
            }
        }
        return best;
    }

    public int local(int place) {
        must(place >= 1 && place < word.length());
        for (int p = 1;; p++) {
            boolean alike = true;
            for (int i = 0; i + p < word.length(); i++) {
                if (i < place && i + p >= place && word.charAt(i) != word.charAt(i + p)) {
                    alike = false;
                }
            }
            if (alike) {
                return p;
            }
        }
    }

    public int count(int what) {
        int[] all = {letters, maps.size(), patterns.size(), avoided.size(), word.length(), acts.size(),
            above, below, kind};
        return what < 0 || what >= all.length ? NONE : all[what];
    }
}
