import java.util.ArrayList;
import java.util.List;
import java.util.regex.Pattern;

/** Promises 19, 36 to 38, 44, 51 at their bounds: PATTERNS of 1 to 6 letters in words of 0 to 64 LETTERS. */
public final class PatternEdgeTest extends Due {
    private static final int LEAST = Integer.MIN_VALUE, MOST = Integer.MAX_VALUE;

    public static void main(String[] args) {
        PatternEdgeTest test = new PatternEdgeTest();
        test.met();
        test.metInAll();
        test.sizes();
        test.cannot();
        test.cannotAsBooksSay();
        test.avoidedByAll();
        test.loose();
        test.looseOfAll();
        test.pattern();
        test.avoid();
        test.whole();
        test.wholeOfAll();
        test.close("PatternEdgeTest");
    }

    private void isMet(String word, int pattern, int... answers) {
        tell(word);
        for (int what = 0; what < 4; what++) {
            due(answers.length == 0 ? -1 : answers[what], "met", pattern, what);
        }
    }

    private void met() {
        edge(19, "in the empty word");
        on("letters 2;pattern p x;pattern q xyzxyz;");
        isMet("", 0);
        isMet("", 1);
        edge(19, "words of 1 LETTER or more");
        on("letters 2;pattern p x;pattern q z;pattern r xyz;pattern s zy;");
        isMet("b", 0, 0, 1, 0, 0);
        isMet("b", 1, 0, 0, 0, 1);
        isMet("ba", 2);
        isMet("bab", 2, 0, 1, 1, 1);
        isMet("b", 3);
        isMet("ba", 3, 0, 0, 1, 1);
        edge(19, "a word of one LETTER fewer than the PATTERN, of as many");
        on("letters 2;pattern p xxxxxx;pattern q yxyxyx;");
        isMet("aaaaa", 0);
        isMet("aaaaaa", 0, 0, 1, 0, 0);
        isMet("babab", 1);
        isMet("bababa", 1, 0, 1, 1, 0);
    }

    private void metInAll() {
        edge(19, "in 64 LETTERS: at the last two of them, none with a LETTER less");
        on("letters 3;map m a abc b ac c b;pattern p xx;");
        due(-1, "fill", 0, 0, 63);
        due(-1, "met", 0, 0);
        due(64, "push", 2);
        due(62, "met", 0, 0);
        due(1, "met", 0, 1);
        edge(19, "in 64 LETTERS: by all of them");
        on("letters 3;pattern p xx;pattern q xyx;pattern r xyyx;");
        String half = "abcacbacabcbabcacbabcbacabcbacbc";
        isMet(half + half, 0, 0, 32, 0, 0);
        isMet("c" + "ab".repeat(31) + "c", 1, 0, 1, 62, 0);
        edge(19, "by the first place, though one behind it has less SIZES");
        on("letters 3;pattern p xx;pattern q xyx;");
        isMet("cabcabb", 0, 0, 3, 0, 0);
        isMet("bcabcaa", 0, 0, 3, 0, 0);
        edge(19, "as a FACTOR: nothing of it stands behind the last LETTER");
        on("letters 3;pattern p xxy;pattern q xyxz;pattern r xyxyz;");
        isMet("cabab", 0);
        isMet("cababc", 0, 1, 2, 1, 0);
        isMet("acbbc", 1);
        isMet("caba", 1);
        isMet("cabac", 1, 1, 1, 1, 1);
        isMet("cabab", 2);
        isMet("cababa", 2, 1, 1, 1, 1);
        edge(19, "at the last places of THE WORD");
        on("letters 4;pattern p xx;pattern q xyx;pattern r yyyyyy;");
        isMet("abcd", 0);
        isMet("b" + "a".repeat(5), 2);
        isMet("b" + "a".repeat(6), 2, 1, 0, 1, 0);
        isMet("abcdd", 0, 3, 1, 0, 0);
        isMet("abcdb", 1, 1, 1, 2, 0);
    }

    private void sizes() {
        edge(19, "the least of x, then of y, z");
        on("letters 2;pattern p xyz;pattern q zyx;pattern r xyzx;pattern s yxxy;");
        isMet("ababab", 0, 0, 1, 1, 1);
        isMet("ababab", 1, 0, 1, 1, 1);
        isMet("abbba", 2, 0, 1, 1, 2);
        isMet("aaaaaaaa", 3, 0, 1, 1, 0);
        edge(19, "the least, be they longer ones of letters that stand more than once");
        on("letters 2;pattern p zzyx;pattern q yyx;pattern r xx;pattern s zyyzx;");
        isMet("aaaaaaaa", 0, 0, 1, 1, 1);
        isMet("aaaaaaaa", 1, 0, 1, 1, 0);
        isMet("aaaaaaaa", 2, 0, 1, 0, 0);
        isMet("aaaaaaaa", 3, 0, 1, 1, 1);
        isMet("ababbb", 0, 0, 1, 1, 2);
        edge(19, "0 of one that it does not have");
        on("letters 2;pattern p yy;pattern q zz;pattern r yzy;");
        isMet("abab", 0, 0, 0, 2, 0);
        isMet("babab", 1, 0, 0, 0, 2);
        isMet("abba", 2, 0, 0, 1, 2);
    }

    private void isCannot(boolean cannot, String pattern) {
        on("letters 2;pattern p " + pattern + ";");
        due(cannot, "cannot", 0);
    }

    private void cannot() {
        edge(36, "one letter in all");
        isCannot(true, "x");
        isCannot(true, "y");
        isCannot(true, "z");
        edge(36, "one letter more than once");
        isCannot(false, "xx");
        isCannot(false, "yy");
        isCannot(false, "zzzzzz");
        edge(36, "each letter once");
        isCannot(true, "xy");
        isCannot(true, "zx");
        isCannot(true, "yzx");
        edge(36, "6 letters");
        isCannot(true, "xyxzxy");
        isCannot(true, "zyzxzy");
        isCannot(true, "xyxzyx");
        isCannot(false, "xyzyxz");
        isCannot(false, "xyzzyx");
        isCannot(false, "xxyxxz");
        edge(36, "3 letters, 5 in all");
        isCannot(true, "xyxzx");
        isCannot(true, "xzxyx");
        isCannot(false, "xyzyz");
        isCannot(true, "yxzxy");
        isCannot(true, "xyzxy");
        edge(36, "whether it is to be avoided is not asked");
        on("letters 2;pattern p xyx;avoid p;pattern q xx;");
        due(true, "cannot", 0);
        due(false, "avoid", 1, 1);
        due(false, "cannot", 1);
    }

    /**
     * A PATTERN of at most three letters cannot be avoided just if it is MET in abacaba (Zimin; Bean, Ehrenfeucht,
     * McNulty): so the two calls answer alike, of each PATTERN.
     */
    private void cannotAsBooksSay() {
        List<String> patterns = allPatterns();
        int found = 0;
        for (int i = 0; i < patterns.size(); i += 4) {
            StringBuilder text = new StringBuilder("letters 3;");
            List<String> four = patterns.subList(i, Math.min(patterns.size(), i + 4));
            for (int k = 0; k < four.size(); k++) {
                text.append("pattern ").append((char) ('p' + k)).append(' ').append(four.get(k)).append(';');
            }
            edge(36, "of " + four);
            on(text.toString());
            tell("abacaba");
            for (int k = 0; k < four.size(); k++) {
                boolean cannot = Pattern.compile(regex(four.get(k))).matcher("abacaba").find();
                due(cannot, "cannot", k);
                found += cannot ? 1 : 0;
                if (!cannot) {
                    due(-1, "met", k, 0);
                }
            }
        }
        if (patterns.size() != 1092 || found == 0) {
            throw new AssertionError("not all patterns of 1 to 6 letters: " + patterns.size());
        }
    }

    /** All of 1 to 6 letters. */
    private static List<String> allPatterns() {
        List<String> patterns = new ArrayList<>(List.of("x", "y", "z"));
        for (int i = 0; patterns.get(i).length() < 6; i++) {
            for (String letter : List.of("x", "y", "z")) {
                patterns.add(patterns.get(i) + letter);
            }
        }
        return patterns;
    }

    /** HOW MANY words have the FACTOR that a PATTERN may not be, of each PATTERN: asked of the Java library's. */
    private void avoidedByAll() {
        for (String pattern : allPatterns()) {
            edge(11, "none of the PATTERNS to avoid is MET: " + pattern);
            on("letters 2;pattern p " + pattern + ";avoid p;");
            Pattern met = Pattern.compile(regex(pattern));
            List<String> free = new ArrayList<>(List.of(""));
            for (int n = 1; n <= 9; n++) {
                List<String> longer = new ArrayList<>();
                for (String word : free) {
                    for (String letter : List.of("a", "b")) {
                        if (!met.matcher(word + letter).find()) {
                            longer.add(word + letter);
                        }
                    }
                }
                free = longer;
                due(free.size(), "many", n);
            }
        }
    }

    private static String regex(String pattern) {
        StringBuilder made = new StringBuilder();
        for (int i = 0; i < pattern.length(); i++) {
            String name = pattern.substring(i, i + 1);
            made.append(pattern.indexOf(name) == i ? "(?<" + name + ">.+)" : "\\k<" + name + ">");
        }
        return made.toString();
    }

    private void areLoose(String pattern, int... sets) {
        on("letters 2;pattern p " + pattern + ";");
        due(sets.length, "loose", 0, -1);
        for (int k = 0; k < sets.length; k++) {
            due(sets[k], "loose", 0, k);
        }
        for (int k : new int[] {sets.length, sets.length + 1, 7, MOST, -2, LEAST}) {
            due(-1, "loose", 0, k);
        }
    }

    private void loose() {
        edge(37, "one letter: all of them");
        areLoose("x", 1);
        areLoose("y", 2);
        edge(37, "none");
        areLoose("zz");
        areLoose("xyyx");
        edge(37, "all of them, too: only where each letter stands alone");
        areLoose("xy", 1, 2);
        areLoose("yz", 2, 4);
        areLoose("zyx", 1, 2, 4, 5);
        edge(37, "a way of more than one step");
        areLoose("xyxzyz");
        areLoose("xyzxzy");
        areLoose("xyxzxy", 1, 2, 4, 6);
        areLoose("xyzxyz", 1, 2, 4);
        areLoose("xxyyzz");
    }

    /** A set is LOOSE just if no piece that is joined has the left POINT of one of it and the right one of one of it. */
    private void looseOfAll() {
        for (String pattern : allPatterns()) {
            int[] piece = {0, 1, 2, 3, 4, 5};
            for (int k = 0; k + 1 < pattern.length(); k++) {
                int left = piece[pattern.charAt(k) - 'x'];
                int right = piece[3 + pattern.charAt(k + 1) - 'x'];
                for (int point = 0; point < 6; point++) {
                    piece[point] = piece[point] == left ? right : piece[point];
                }
            }
            List<Integer> sets = new ArrayList<>();
            for (int set = 1; set < 8; set++) {
                boolean loose = true;
                for (int point = 0; point < 9; point++) {
                    int left = point / 3;
                    int right = point % 3;
                    boolean both = (set >> left & 1) != 0 && (set >> right & 1) != 0;
                    loose = loose && !(both && piece[left] == piece[3 + right]);
                }
                for (int letter = 0; letter < 3; letter++) {
                    loose = loose && ((set >> letter & 1) == 0 || pattern.indexOf('x' + letter) >= 0);
                }
                if (loose) {
                    sets.add(set);
                }
            }
            edge(37, "of " + pattern);
            areLoose(pattern, sets.stream().mapToInt(set -> set).toArray());
        }
    }

    private void pattern() {
        edge(38, "1 to 6 letters, which, to be avoided");
        on("letters 2;pattern p z;pattern q xzxzxz;pattern r xyz;pattern s yyy;avoid s;avoid p;");
        int[][] due = {{1, 4, 1}, {6, 5, 0}, {3, 7, 0}, {3, 2, 1}};
        for (int pattern = 0; pattern < 4; pattern++) {
            for (int what = 0; what < 3; what++) {
                due(due[pattern][what], "pattern", pattern, what);
            }
        }
    }

    private void avoid() {
        edge(44, "whether it was");
        on("letters 2;pattern p xx;pattern q y;avoid p;");
        tell("aa");
        due(1, "ends");
        due(true, "avoid", 0, 1);
        due(1, "count", 3);
        due(true, "avoid", 0, 0);
        due(0, "count", 3);
        due(-1, "ends");
        due(false, "avoid", 0, 0);
        due(false, "avoid", 1, 1);
        due(0, "ends");
        due(false, "avoid", 0, 1);
        due(2, "count", 3);
        due(true, "avoid", 1, 0);
        due(1, "ends");
        edge(44, "no ACT; THE WORD stays");
        is("");
        on("letters 2;pattern p x;");
        tell("ab");
        due(false, "avoid", 0, 1);
        due(1, "count", 5);
        is("ab");
        due(0, "many", 1);
        put("letters 2;pattern p x;");
        due(2, "read");
        due(0, "pattern", 0, 2);
        due(2, "many", 1);
    }

    private void isWhole(String word, int pattern, int[]... sizes) {
        tell(word);
        for (int what = 0; what < 3; what++) {
            due(sizes.length, "whole", pattern, -1, what);
            for (int k = 0; k < sizes.length; k++) {
                due(sizes[k][what], "whole", pattern, k, what);
            }
            for (int k : new int[] {sizes.length, sizes.length + 1, MOST, -2, LEAST}) {
                due(-1, "whole", pattern, k, what);
            }
        }
    }

    private void whole() {
        edge(51, "of the empty word: none, as words have 1 LETTER or more");
        on("letters 2;pattern p x;pattern q xyz;pattern r yy;pattern s zyxzyx;");
        isWhole("", 0);
        isWhole("", 1);
        edge(51, "of as many LETTERS as the PATTERN, of one fewer, of one more");
        on("letters 2;pattern p x;pattern q xyz;pattern r yy;pattern s zyxzyx;");
        isWhole("b", 0, new int[] {1, 0, 0});
        isWhole("ab", 1);
        isWhole("abb", 1, new int[] {1, 1, 1});
        isWhole("abbb", 1, new int[] {1, 1, 2}, new int[] {1, 2, 1}, new int[] {2, 1, 1});
        isWhole("aa", 2, new int[] {0, 1, 0});
        isWhole("ab", 2);
        isWhole("aaa", 2);
        isWhole("babba", 3);
        isWhole("abbabb", 3, new int[] {1, 1, 1});
        isWhole("abbabba", 3);
        isWhole("aabbaabb", 3, new int[] {1, 1, 2}, new int[] {1, 2, 1}, new int[] {2, 1, 1});
    }

    private void wholeOfAll() {
        edge(51, "of 64 LETTERS");
        on("letters 2;pattern p x;pattern q xyz;pattern r yy;pattern s zyxzyx;");
        isWhole("a".repeat(63) + "b", 0, new int[] {64, 0, 0});
        isWhole("ab".repeat(32), 2, new int[] {0, 32, 0});
        isWhole("ab".repeat(31) + "a", 2);
        tell("ab".repeat(32));
        // all ways to cut 64 in three
        due(1953, "whole", 1, -1, 0);
        int[][] some = {{0, 1, 1, 62}, {61, 1, 62, 1}, {62, 2, 1, 61}, {1952, 62, 1, 1}, {1951, 61, 2, 1}, {1950, 61, 1, 2}};
        for (int[] row : some) {
            for (int what = 0; what < 3; what++) {
                due(row[what + 1], "whole", 1, row[0], what);
            }
        }
        due(-1, "whole", 1, 1953, 0);
        // and 32 in three
        due(465, "whole", 3, -1, 2);
        due(30, "whole", 3, 464, 0);
    }
}
