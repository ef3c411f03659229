import java.util.ArrayList;
import java.util.List;

/** Terms 2 and promises 11 to 18, 45 to 47 at their bounds: the empty word, one LETTER, 64 LETTERS, limits met just so. */
public final class WordEdgeTest extends Due {
    private static final int LEAST = Integer.MIN_VALUE, MOST = Integer.MAX_VALUE;

    public static void main(String[] args) {
        WordEdgeTest test = new WordEdgeTest();
        test.under();
        test.upto();
        test.withoutLimit();
        test.eachLimit();
        test.patternsToAvoid();
        test.ends();
        test.greatest();
        test.period();
        test.border();
        test.runs();
        test.longRuns();
        test.factors();
        test.mirror();
        test.lyndon();
        test.turned();
        test.local();
        test.shrunk();
        test.close("WordEdgeTest");
    }

    private static String a(int n) {
        return "a".repeat(n);
    }

    private void isFree(boolean free, String word) {
        tell(word);
        due(free, "free");
    }

    private void under() {
        edge(11, "the empty word");
        due(true, "free");
        on("letters 2;limit under 1 over 9;pattern p x;avoid p;");
        due(true, "free");
        edge(11, "under: N over N or more");
        on("letters 3;limit under 7 over 4;");
        isFree(true, "abcab");
        isFree(true, "abcacb");
        isFree(false, "abcbabc");
        isFree(false, "abcabc");
        isFree(true, "abcbab");
        on("letters 2;limit under 14 over 8;");
        isFree(false, "abbbabb");
        on("letters 4;limit under 7 over 4;");
        isFree(true, "abcdab");
        isFree(false, "abcdabc");
        edge(11, "under 1 over 1: no LETTER at all");
        on("letters 4;limit under 1 over 1;");
        isFree(false, "a");
        isFree(false, "abcd");
        on("letters 4;limit under 9 over 9;");
        isFree(false, "d");
        on("letters 4;limit under 9 over 8;");
        isFree(true, "abcd");
        isFree(false, "abca");
        edge(11, "under 64 over 1, 65 over 1: of 64 LETTERS");
        on("letters 2;limit under 64 over 1;");
        isFree(true, a(63));
        isFree(true, a(63) + "b");
        isFree(false, a(64));
        on("letters 2;limit under 65 over 1;");
        isFree(true, a(64));
        on("letters 2;limit under 99 over 9;");
        isFree(true, a(10) + "b");
        isFree(false, a(11));
    }

    private void upto() {
        edge(11, "upto: more than N over N");
        on("letters 4;limit upto 7 over 4;");
        isFree(true, "abcdabc");
        isFree(false, "abcdabcd");
        isFree(true, "abcab");
        isFree(false, "abcabc");
        edge(11, "upto 1 over 1: no LETTER twice");
        on("letters 4;limit upto 1 over 1;");
        isFree(true, "a");
        isFree(true, "dbca");
        isFree(false, "dbcad");
        on("letters 4;limit upto 1 over 2;");
        isFree(false, "a");
        on("letters 4;limit upto 8 over 9;");
        isFree(false, "c");
        edge(11, "upto 63 over 1, 64 over 1: of 64 LETTERS");
        on("letters 2;limit upto 63 over 1;");
        isFree(true, a(63));
        isFree(true, "b" + a(63));
        isFree(false, a(64));
        on("letters 2;limit upto 64 over 1;");
        isFree(true, a(64));
        on("letters 2;limit upto 99 over 9;");
        isFree(true, a(11) + "b");
        isFree(false, a(12));
    }

    private void withoutLimit() {
        edge(11, "without a limit none is");
        isFree(true, a(64));
        isFree(true, "ab".repeat(32));
        on("letters 2;limit under 1 over 1;");
        isFree(false, "a");
        due(1, "limit", 0, 1, 1);
        due(true, "free");
        isFree(true, a(64));
    }

    /** A word of 64 LETTERS, 62 of them one power: which limits it is beyond. */
    private void eachLimit() {
        for (int below = 1; below <= 9; below++) {
            for (int above = 1; above <= 99; above += 7) {
                edge(11, "under, upto " + above + " over " + below);
                tell("b" + "ab".repeat(31) + "b");
                due(0, "limit", 1, above, below);
                // the power has 63 LETTERS (with the first one), its least PERIOD is 2
                due(63 * below < 2 * above, "free");
                due(1, "limit", 2, above, below);
                due(63 * below <= 2 * above, "free");
            }
        }
        edge(11, "just met: 63 by 2");
        tell("b" + "ab".repeat(31) + "b");
        due(0, "limit", 1, 63, 2);
        due(false, "free");
        due(62, "ends");
        due(1, "limit", 2, 63, 2);
        due(true, "free");
        due(2, "limit", 1, 64, 2);
        due(true, "free");
        due(1, "limit", 2, 62, 2);
        due(false, "free");
    }

    private void patternsToAvoid() {
        edge(11, "PATTERNS to avoid, not others");
        on("letters 2;pattern p xx;pattern q xyx;pattern r y;avoid q;");
        isFree(true, "aabb");
        isFree(false, "aba");
        isFree(false, "baab");
        isFree(true, "");
        due(false, "avoid", 2, 1);
        due(true, "free");
        isFree(false, "a");
        edge(11, "a PATTERN as long as THE WORD, a longer one");
        on("letters 2;pattern p xxxxxx;avoid p;");
        isFree(true, "aaaaa");
        isFree(false, "aaaaaa");
        isFree(false, "ab".repeat(6));
        isFree(true, "ab".repeat(5) + "a");
        edge(11, "words of 1 LETTER or more, in 64 LETTERS");
        on("letters 2;pattern p xyx;avoid p;");
        isFree(false, "a" + "b".repeat(62) + "a");
        isFree(false, "b" + a(62) + "b");
        on("letters 4;pattern p xyx;avoid p;");
        isFree(true, "aabbccdd");
        isFree(false, "aabbccdda");
        on("letters 2;pattern p xyx;");
        isFree(true, "aba");
    }

    private void endsAt(int place, String word) {
        tell(word);
        due(place, "ends");
    }

    private void ends() {
        edge(12, "NONE: it is FREE; the empty word is");
        due(-1, "ends");
        on("letters 2;limit under 1 over 1;");
        due(-1, "ends");
        edge(12, "the first place, the last one of 64");
        on("letters 2;limit under 1 over 1;");
        endsAt(0, "a");
        endsAt(0, "ab");
        endsAt(0, a(64));
        on("letters 2;limit under 64 over 1;");
        endsAt(63, a(64));
        endsAt(-1, a(63) + "b");
        endsAt(-1, a(63));
        on("letters 2;limit upto 62 over 1;");
        endsAt(62, a(64));
        endsAt(63, "b" + a(63));
        edge(12, "the shortest beginning, by a limit or a PATTERN");
        on("letters 2;limit under 3 over 1;pattern p xyxy;avoid p;");
        endsAt(3, "ababbb");
        endsAt(2, "bbbabab");
        endsAt(3, "abab");
        endsAt(4, "aabbb");
        on("letters 2;pattern p x;avoid p;");
        endsAt(0, "b");
        on("letters 2;pattern p xyzxyz;avoid p;");
        endsAt(5, "aaaaaaa");
        endsAt(5, "abbabbabb");
        endsAt(-1, "abbab");
    }

    private void isGreatest(int size, int period, int start, String word) {
        tell(word);
        due(size, "greatest", 0);
        due(period, "greatest", 1);
        due(start, "greatest", 2);
    }

    private void greatest() {
        edge(13, "NONE of all, if THE WORD is empty");
        isGreatest(-1, -1, -1, "");
        edge(13, "one LETTER");
        isGreatest(1, 1, 0, "b");
        edge(13, "64 LETTERS");
        isGreatest(64, 1, 0, a(64));
        isGreatest(64, 2, 0, "ba".repeat(32));
        isGreatest(63, 1, 1, "b" + a(63));
        isGreatest(63, 1, 0, a(63) + "b");
        edge(13, "of several the first one, then the longest");
        on("letters 4;");
        isGreatest(4, 4, 0, "dcba");
        isGreatest(3, 3, 0, "bcd");
        isGreatest(2, 1, 1, "abbccdd");
        isGreatest(4, 2, 0, "ababcc");
        isGreatest(2, 1, 0, "aabcbc");
        isGreatest(4, 2, 1, "dababcdcd");
        isGreatest(6, 3, 0, "aabaab");
        isGreatest(3, 2, 0, "abacbc");
        edge(13, "of one EXPONENT the first one, be it 6 by 4, 3 by 2");
        on("letters 4;");
        isGreatest(6, 4, 0, "abcdabcac".substring(0, 6) + "dcd");
        isGreatest(3, 2, 0, "cdcabcda");
    }

    private void isPeriod(int period, String word) {
        tell(word);
        due(period, "period");
    }

    private void period() {
        edge(14, "NONE: it is empty");
        due(-1, "period");
        isPeriod(-1, " ");
        edge(14, "1 to n");
        isPeriod(1, "b");
        isPeriod(2, "ba");
        isPeriod(1, a(64));
        isPeriod(2, "ab".repeat(32));
        isPeriod(64, a(63) + "b");
        isPeriod(63, "a" + "b".repeat(62) + "a");
        isPeriod(63, a(62) + "ba");
        isPeriod(32, a(31) + "b" + a(31) + "b");
        isPeriod(33, a(32) + "b" + a(31));
    }

    private void border() {
        edge(15, "of the empty word, of one LETTER");
        due(-1, "border", 0);
        tell("a");
        due(-1, "border", 0);
        edge(15, "more than 0, fewer than all");
        tell("aa");
        due(1, "border", 0);
        due(-1, "border", 1);
        tell("ab");
        due(-1, "border", 0);
        edge(15, "the longest first, of 64 LETTERS");
        tell(a(64));
        due(63, "border", 0);
        due(62, "border", 1);
        due(1, "border", 62);
        due(-1, "border", 63);
        due(-1, "border", 64);
        tell(a(32) + "b" + a(31));
        due(31, "border", 0);
        due(1, "border", 30);
        due(-1, "border", 31);
        tell(a(63) + "b");
        due(-1, "border", 0);
        edge(15, "NONE behind");
        tell("abaab".repeat(2) + "a");
        due(6, "border", 0);
        due(3, "border", 1);
        due(1, "border", 2);
        for (int k : new int[] {3, 4, MOST, -1, LEAST}) {
            due(-1, "border", k);
        }
    }

    private void areRuns(String word, int[]... runs) {
        tell(word);
        for (int what = 0; what <= 2; what++) {
            due(runs.length, "run", -1, what);
            for (int k = 0; k < runs.length; k++) {
                due(runs[k][what], "run", k, what);
            }
            for (int k : new int[] {runs.length, -2, LEAST, MOST}) {
                due(-1, "run", k, what);
            }
        }
    }

    private void runs() {
        edge(16, "2 p LETTERS at least");
        areRuns("");
        areRuns("b");
        areRuns("aa", new int[] {0, 2, 1});
        areRuns("aba");
        areRuns("abab", new int[] {0, 4, 2});
        edge(16, "would not have it with the LETTER ahead, behind");
        areRuns("ababa", new int[] {0, 5, 2});
        areRuns("bbababb", new int[] {0, 2, 1}, new int[] {1, 5, 2}, new int[] {5, 2, 1});
        on("letters 3;");
        areRuns("cabcabc", new int[] {0, 7, 3});
        edge(16, "p its least PERIOD");
        areRuns("aaaa", new int[] {0, 4, 1});
        areRuns("abababab", new int[] {0, 8, 2});
        edge(16, "by their first places, then by p");
        areRuns("aabaabb", new int[] {0, 2, 1}, new int[] {0, 6, 3}, new int[] {3, 2, 1}, new int[] {5, 2, 1});
        areRuns("aabaabaab", new int[] {0, 2, 1}, new int[] {0, 9, 3}, new int[] {3, 2, 1}, new int[] {6, 2, 1});
        edge(16, "at the last place");
        areRuns("abb", new int[] {1, 2, 1});
    }

    private void longRuns() {
        edge(16, "of 64 LETTERS");
        areRuns(a(64), new int[] {0, 64, 1});
        areRuns("ab".repeat(32), new int[] {0, 64, 2});
        areRuns("a" + "b".repeat(63), new int[] {1, 63, 1});
        edge(16, "p 32 of 64 LETTERS");
        areRuns((a(31) + "b").repeat(2), new int[] {0, 31, 1}, new int[] {0, 64, 32}, new int[] {32, 31, 1});
        edge(16, "p 32 of 63");
        areRuns((a(31) + "b").repeat(2).substring(1), new int[] {0, 30, 1}, new int[] {31, 31, 1});
        edge(16, "p 31 and 32 of 63, 64");
        areRuns((a(30) + "b").repeat(2) + "b", new int[] {0, 30, 1}, new int[] {0, 62, 31}, new int[] {31, 30, 1},
            new int[] {61, 2, 1});
    }

    private void areFactors(int n, int due) {
        due(due, "factors", n);
    }

    private void factors() {
        edge(17, "of the empty word");
        areFactors(1, 0);
        areFactors(64, 0);
        edge(17, "of as many LETTERS as THE WORD, of more, of fewer");
        tell("abb");
        areFactors(1, 2);
        areFactors(2, 2);
        areFactors(3, 1);
        areFactors(4, 0);
        edge(17, "of 64 LETTERS");
        tell(a(64));
        areFactors(1, 1);
        areFactors(63, 1);
        areFactors(64, 1);
        tell(a(63) + "b");
        areFactors(1, 2);
        areFactors(2, 2);
        areFactors(32, 2);
        areFactors(63, 2);
        areFactors(64, 1);
        tell(a(32) + "b" + a(31));
        areFactors(32, 33);
        areFactors(33, 32);
        areFactors(31, 32);
        edge(17, "unlike ones");
        on("letters 4;");
        tell("abcd".repeat(16));
        areFactors(1, 4);
        areFactors(4, 4);
        areFactors(61, 4);
        areFactors(62, 3);
    }

    private void isMirror(int most, String word) {
        tell(word);
        due(most, "mirror");
    }

    private void mirror() {
        edge(18, "0: it is empty");
        due(0, "mirror");
        edge(18, "one LETTER, two");
        isMirror(1, "b");
        isMirror(1, "ba");
        isMirror(2, "bb");
        isMirror(3, "bab");
        edge(18, "at the beginning, at the end, in the middle");
        on("letters 3;");
        isMirror(5, "abcbaca");
        isMirror(4, "aabccbc");
        isMirror(5, "caabcba");
        isMirror(2, "abcaa");
        isMirror(2, "aabc");
        isMirror(1, "abcabc");
        edge(18, "of 64 LETTERS");
        on("letters 3;");
        isMirror(64, a(64));
        isMirror(63, a(63) + "b");
        isMirror(63, "b" + a(63));
        isMirror(63, "ab".repeat(32));
        isMirror(64, "ab".repeat(16) + "ba".repeat(16));
        isMirror(62, "c" + "ab".repeat(15) + "aa" + "ba".repeat(15) + "a");
    }

    private void areLyndon(String word, int... sizes) {
        tell(word);
        due(sizes.length, "lyndon", -1);
        for (int k = 0; k < sizes.length; k++) {
            due(sizes[k], "lyndon", k);
        }
        for (int k : new int[] {sizes.length, sizes.length + 1, MOST, -2, LEAST}) {
            due(-1, "lyndon", k);
        }
    }

    private void lyndon() {
        edge(45, "the empty word, one LETTER");
        areLyndon("");
        areLyndon("b", 1);
        edge(45, "less than all their ends: the shorter one is");
        areLyndon("aa", 1, 1);
        areLyndon("ab", 2);
        areLyndon("aba", 2, 1);
        areLyndon("abab", 2, 2);
        areLyndon("abaab", 2, 3);
        areLyndon("aabab", 5);
        edge(45, "none less than the one behind it");
        areLyndon("bababaa", 1, 2, 2, 1, 1);
        areLyndon("bba", 1, 1, 1);
        edge(45, "of 64 LETTERS");
        areLyndon(a(63) + "b", 64);
        areLyndon("ab".repeat(31) + "bb", 64);
        areLyndon(a(32) + "b" + a(31), sizes(33, 31));
        areLyndon(a(64), sizes(1, 63));
        areLyndon("b" + a(63), sizes(1, 63));
        areLyndon("a" + "b".repeat(62) + "a", 63, 1);
    }

    /** One size, and behind it so many of 1. */
    private static int[] sizes(int first, int ones) {
        int[] sizes = new int[ones + 1];
        java.util.Arrays.fill(sizes, 1);
        sizes[0] = first;
        return sizes;
    }

    private void isTurned(int place, String word) {
        tell(word);
        due(place, "turned");
    }

    private void turned() {
        edge(46, "NONE: it is empty");
        due(-1, "turned");
        edge(46, "one LETTER");
        isTurned(0, "b");
        edge(46, "the first of several places");
        isTurned(0, "aa");
        isTurned(0, "abab");
        isTurned(1, "baba");
        isTurned(2, "bbabb");
        isTurned(2, "abaab");
        edge(46, "of 64 LETTERS: the first place, the last one");
        isTurned(0, a(64));
        isTurned(0, a(63) + "b");
        isTurned(63, "b".repeat(63) + "a");
        isTurned(1, "b" + a(63));
        isTurned(63, a(62) + "ba");
        isTurned(1, "ba".repeat(32));
    }

    /** What is asked of a word that was longer is answered as of one that is told so. */
    private void shrunk() {
        String[] words = {"", "b", "ab", "aab", "abba", "babaab", "aabaabaa", "abaababaabaab"};
        for (String word : words) {
            edge(9, "a longer word that lost LETTERS: " + word);
            on("letters 2;limit upto 2 over 1;pattern p xx;pattern q xyx;avoid q;");
            tell(word);
            List<String> before = answers();
            tell(word + a(64 - word.length()));
            for (int n = 64; n > word.length(); n--) {
                due(0, "pop");
            }
            isAs(before, answers(), "pop");
            tell(word);
            tell("ab".repeat(32));
            due(9, "undo");
            isAs(before, answers(), "undo");
            tell("ab".repeat(32));
            tell(word);
            isAs(before, answers(), "word");
        }
    }

    private List<String> answers() {
        List<String> answers = new ArrayList<>();
        for (String call : new String[] {"free", "ends", "period", "mirror", "goes", "further", "turned", "ahead", "rank"}) {
            answers.add(ask(call));
        }
        for (int n = 0; n <= 3; n++) {
            answers.add(ask("border", n));
            answers.add(ask("factors", n + 1));
            answers.add(ask("lyndon", n - 1));
            answers.add(ask("local", n + 1));
            answers.add(ask("met", 0, n));
            answers.add(ask("met", 1, n));
            answers.add(ask("run", 0, n));
            answers.add(ask("run", 2, n));
            answers.add(ask("greatest", n));
            answers.add(ask("whole", 0, -1, n));
            answers.add(ask("whole", 1, 1, n));
        }
        return answers;
    }

    private void local() {
        edge(47, "all, if there are none: p as long as it must be");
        tell("ab");
        due(2, "local", 1);
        tell("aa");
        due(1, "local", 1);
        edge(47, "1 on, less than LETTERS of THE WORD: of 64");
        tell(a(63) + "b");
        due(1, "local", 1);
        due(1, "local", 62);
        due(64, "local", 63);
        tell("b" + a(63));
        due(64, "local", 1);
        due(1, "local", 2);
        due(1, "local", 63);
        tell(a(32) + "b" + a(31));
        due(33, "local", 32);
        due(32, "local", 33);
        tell("ab".repeat(32));
        due(2, "local", 1);
        due(2, "local", 32);
        due(2, "local", 63);
        edge(47, "the one ahead of the place, the other one not");
        on("letters 3;");
        tell("abcabc");
        for (int place = 1; place <= 5; place++) {
            due(3, "local", place);
        }
        tell("abcacb");
        int[] all = {3, 6, 6, 6, 4};
        for (int place = 1; place <= 5; place++) {
            due(all[place - 1], "local", place);
        }
    }
}
