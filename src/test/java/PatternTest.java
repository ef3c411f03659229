/** Promises 19, 36 to 38, 44, 51: patterns. */
public final class PatternTest extends Due {
    private static final String FOUR =
        "letters 3; pattern xx xx; pattern a xyx; pattern b zzyx; pattern c yxzyxz; avoid a;";

    public static void main(String[] args) {
        PatternTest test = new PatternTest();
        test.met();
        test.cannot();
        test.loose();
        test.pattern();
        test.avoid();
        test.whole();
        test.close("PatternTest");
    }

    private void needsPattern(String call, long... behind) {
        for (long pattern : new long[] {-1, 4, Integer.MAX_VALUE, Integer.MIN_VALUE}) {
            long[] numbers = new long[behind.length + 1];
            numbers[0] = pattern;
            System.arraycopy(behind, 0, numbers, 1, behind.length);
            due(INDEX, call, numbers);
        }
    }

    private void isMet(String word, int pattern, int at, int x, int y, int z) {
        tell(word);
        due(at, "met", pattern, 0);
        due(x, "met", pattern, 1);
        due(y, "met", pattern, 2);
        due(z, "met", pattern, 3);
    }

    private void met() {
        promise(19);
        due(INDEX, "met", 0, 9);
        on(FOUR);
        needsPattern("met", 9);
        due(ELEMENT, "met", 0, 4);
        due(ELEMENT, "met", 0, -1);
        isMet("", 0, -1, -1, -1, -1);
        isMet("abcacb", 0, -1, -1, -1, -1);
        isMet("aab", 0, 0, 1, 0, 0);
        isMet("cabab", 0, 1, 2, 0, 0);
        // at the first place the shorter one, though a shorter one yet begins behind it
        isMet("abcabcc", 0, 0, 3, 0, 0);
        isMet("aabaab", 0, 0, 1, 0, 0);
        isMet("abcab", 1, 0, 1, 2, 0);
        isMet("abab", 1, 0, 1, 1, 0);
        isMet("cbacab", 1, 0, 1, 2, 0);
        isMet("aaab", 2, 0, 1, 1, 1);
        isMet("ababca", 2, 0, 1, 1, 2);
        isMet("ababc", 2, -1, -1, -1, -1);
        isMet("abcabc", 3, 0, 1, 1, 1);
        isMet("aabcaabc", 3, 0, 1, 1, 2);
        isMet("cbacbba", 3, -1, -1, -1, -1);
        // the least of x counts ahead of the least of y, though y comes first
        on("letters 2; pattern p yxy; pattern q zyyx; pattern r yxyxx;");
        isMet("aabaa", 0, 0, 1, 2, 0);
        isMet("bbbaabaaabab", 0, 0, 1, 1, 0);
        isMet("ababaaa", 1, 0, 1, 1, 4);
        isMet("baabaaaa", 2, 0, 1, 2, 0);
    }

    private void isCannot(boolean cannot, String pattern) {
        on("letters 2; pattern p " + pattern + ";");
        due(cannot, "cannot", 0);
    }

    private void cannot() {
        promise(36);
        on(FOUR);
        needsPattern("cannot");
        for (String pattern : new String[] {"x", "xy", "xyx", "xyz", "zyxz", "xyxzx", "xyxzxy", "yxzx", "xyzx"}) {
            isCannot(true, pattern);
        }
        for (String pattern : new String[] {"xx", "xyxy", "xyyx", "xyzxyz", "xxy", "yzz", "xyxyx", "xyzxzy", "xxyyzz", "xyxyz",
            "yxzxz", "zxyxy"}) {
            isCannot(false, pattern);
        }
    }

    private void areLoose(String pattern, int... sets) {
        on("letters 2; pattern p " + pattern + ";");
        due(sets.length, "loose", 0, -1);
        for (int k = 0; k < sets.length; k++) {
            due(sets[k], "loose", 0, k);
        }
        due(-1, "loose", 0, sets.length);
        due(-1, "loose", 0, -2);
    }

    private void loose() {
        promise(37);
        on(FOUR);
        needsPattern("loose", 0);
        areLoose("x", 1);
        areLoose("z", 4);
        areLoose("xx");
        areLoose("xyx", 1, 2);
        // x's left point meets y's right one, y's left one z's right one
        areLoose("xyz", 1, 2, 4, 5);
        areLoose("xyxy", 1, 2);
        areLoose("xxy", 2);
        areLoose("yxzx", 1, 2, 4, 6);
        areLoose("xyxzx", 1, 2, 4, 6);
        // from x's left point to y's right one, z's left one, x's right one
        areLoose("xyzyzx", 2, 4);
    }

    private void pattern() {
        promise(38);
        on(FOUR);
        needsPattern("pattern", 9);
        due(ELEMENT, "pattern", 0, 3);
        due(ELEMENT, "pattern", 0, -1);
        int[][] due = {{2, 1, 0}, {3, 3, 1}, {4, 7, 0}, {6, 7, 0}};
        for (int pattern = 0; pattern < 4; pattern++) {
            for (int what = 0; what < 3; what++) {
                due(due[pattern][what], "pattern", pattern, what);
            }
        }
    }

    private void avoid() {
        promise(44);
        on(FOUR);
        needsPattern("avoid", 1);
        due(true, "avoid", 1, 1);
        due(false, "avoid", 0, 0);
        due(1, "count", 3);
        tell("aab");
        due(true, "free");
        due(false, "avoid", 0, 1);
        due(2, "count", 3);
        due(1, "pattern", 0, 2);
        due(false, "free");
        due(1, "ends");
        due(true, "avoid", 0, 0);
        due(true, "avoid", 1, 0);
        due(false, "avoid", 1, 0);
        due(0, "count", 3);
        tell("aabba");
        due(true, "free");
    }

    private void isWhole(String word, int pattern, int[]... sizes) {
        tell(word);
        due(sizes.length, "whole", pattern, -1, 0);
        for (int k = 0; k < sizes.length; k++) {
            for (int what = 0; what < 3; what++) {
                due(sizes[k][what], "whole", pattern, k, what);
            }
        }
        due(-1, "whole", pattern, sizes.length, 1);
        due(-1, "whole", pattern, -2, 0);
    }

    private void whole() {
        promise(51);
        on(FOUR);
        needsPattern("whole", 0, 9);
        due(ELEMENT, "whole", 0, -1, 3);
        due(ELEMENT, "whole", 0, 0, -1);
        isWhole("", 0);
        isWhole("a", 0);
        isWhole("abab", 0, new int[] {2, 0, 0});
        isWhole("ababa", 0);
        isWhole("abaab", 1, new int[] {2, 1, 0});
        isWhole("aabaa", 1, new int[] {1, 3, 0}, new int[] {2, 1, 0});
        // two alike ahead: of one LETTER, of two
        isWhole("aaaaab", 2, new int[] {1, 1, 2}, new int[] {1, 3, 1}, new int[] {2, 2, 1}, new int[] {3, 1, 1});
        isWhole("abcabc", 3, new int[] {1, 1, 1});
        tell("a".repeat(64));
        due(31, "whole", 1, -1, 0);
        due(31, "whole", 1, 30, 0);
        due(2, "whole", 1, 30, 1);
    }
}
