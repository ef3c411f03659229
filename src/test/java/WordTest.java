/** Promises 11 to 18, 45 to 47: what THE WORD is like. */
public final class WordTest extends Due {
    public static void main(String[] args) {
        WordTest test = new WordTest();
        test.free();
        test.ends();
        test.greatest();
        test.period();
        test.border();
        test.run();
        test.factors();
        test.mirror();
        test.lyndon();
        test.turned();
        test.local();
        test.close("WordTest");
    }

    private void isFree(boolean free, String word) {
        tell(word);
        due(free, "free");
    }

    private void free() {
        promise(11);
        isFree(true, "");
        isFree(true, "aaaaaaaaaa");
        on("letters 3;limit under 2 over 1;");
        isFree(true, "");
        isFree(true, "abcacbabc");
        isFree(false, "abcacbabcbc");
        isFree(false, "aab");
        isFree(false, "cabab");
        on("letters 3;limit upto 2 over 1;");
        isFree(true, "ababccbb");
        isFree(false, "ababa");
        isFree(false, "baaa");
        on("letters 3;limit upto 7 over 4;");
        isFree(true, "abcab");
        isFree(true, "abcbabc");
        isFree(false, "abab");
        on("letters 3;limit under 7 over 4;");
        isFree(true, "abcab");
        isFree(false, "abcbabc");
        on("letters 2;limit under 99 over 2;");
        isFree(true, "a".repeat(49));
        isFree(false, "a".repeat(50));
        on("letters 2;limit under 1 over 1;");
        isFree(true, "");
        isFree(false, "a");
        on("letters 2;limit upto 1 over 1;");
        isFree(true, "ab");
        isFree(false, "aba");
        on("letters 2;limit upto 1 over 9;");
        isFree(false, "b");
        on("letters 3;pattern p xyyx;pattern q zz;avoid p;");
        isFree(true, "aabb");
        isFree(false, "cabba");
        isFree(false, "cabccbab");
        due(true, "avoid", 0, 0);
        due(true, "free");
    }

    private void ends() {
        promise(12);
        due(-1, "ends");
        on("letters 3;limit under 2 over 1;");
        tell("abcabab");
        due(6, "ends");
        tell("abcababccc");
        due(6, "ends");
        tell("abcaba");
        due(-1, "ends");
        tell("aabb");
        due(1, "ends");
        due(1, "limit", 1, 1, 1);
        due(0, "ends");
        on("letters 2;pattern p xyx;avoid p;");
        tell("abba");
        due(3, "ends");
        tell("aabba");
        due(4, "ends");
    }

    private void isGreatest(int size, int period, int start, String word) {
        tell(word);
        due(size, "greatest", 0);
        due(period, "greatest", 1);
        due(start, "greatest", 2);
    }

    private void greatest() {
        promise(13);
        isGreatest(-1, -1, -1, "");
        due(ELEMENT, "greatest", 3);
        due(ELEMENT, "greatest", -1);
        isGreatest(1, 1, 0, "a");
        isGreatest(2, 2, 0, "ba");
        isGreatest(2, 1, 2, "abaab");
        isGreatest(6, 3, 0, "aabaab");
        isGreatest(2, 1, 0, "aabb");
        isGreatest(5, 2, 0, "babab");
        isGreatest(4, 2, 0, "ababb");
        isGreatest(64, 1, 0, "b".repeat(64));
        due(ELEMENT, "greatest", 3);
        on("letters 4;");
        isGreatest(4, 4, 0, "abcd");
        isGreatest(5, 3, 1, "dabcab");
    }

    private void period() {
        promise(14);
        due(-1, "period");
        String[] words = {"a", "aa", "ab", "aba", "aabaab", "abaab", "aab", "abababab"};
        int[] periods = {1, 1, 2, 2, 3, 3, 3, 2};
        for (int i = 0; i < words.length; i++) {
            tell(words[i]);
            due(periods[i], "period");
        }
        tell("a" + "b".repeat(63));
        due(64, "period");
    }

    private void border() {
        promise(15);
        due(-1, "border", 0);
        tell("abaababaab");
        due(5, "border", 0);
        due(2, "border", 1);
        due(-1, "border", 2);
        due(-1, "border", -1);
        due(-1, "border", Integer.MAX_VALUE);
        tell("aaaa");
        due(3, "border", 0);
        due(1, "border", 2);
        due(-1, "border", 3);
        tell("a");
        due(-1, "border", 0);
    }

    private void isRun(int k, int start, int size, int period) {
        due(start, "run", k, 0);
        due(size, "run", k, 1);
        due(period, "run", k, 2);
    }

    private void run() {
        promise(16);
        due(0, "run", -1, 0);
        due(-1, "run", 0, 0);
        due(ELEMENT, "run", 0, 3);
        due(ELEMENT, "run", -1, -1);
        tell("aabaab");
        due(3, "run", -1, 2);
        isRun(0, 0, 2, 1);
        isRun(1, 0, 6, 3);
        isRun(2, 3, 2, 1);
        isRun(3, -1, -1, -1);
        isRun(-2, -1, -1, -1);
        due(ELEMENT, "run", 1, 3);
        tell("abababa");
        due(1, "run", -1, 0);
        isRun(0, 0, 7, 2);
        tell("abbbbaabbb");
        due(3, "run", -1, 0);
        isRun(0, 1, 4, 1);
        isRun(1, 5, 2, 1);
        isRun(2, 7, 3, 1);
        tell("a");
        due(0, "run", -1, 0);
    }

    private void factors() {
        promise(17);
        tell("aabaab");
        int[] due = {2, 3, 3, 3, 2, 1, 0};
        for (int n = 1; n <= due.length; n++) {
            due(due[n - 1], "factors", n);
        }
        due(0, "factors", 64);
        due(ARGUMENT, "factors", 0);
        due(ARGUMENT, "factors", 65);
        due(ARGUMENT, "factors", -1);
        tell("ab".repeat(32));
        due(2, "factors", 63);
        due(1, "factors", 64);
    }

    private void mirror() {
        promise(18);
        due(0, "mirror");
        on("letters 3;");
        String[] words = {"a", "ab", "aab", "abba", "cabbab", "abcba", "abcabc", "cabcbabcc"};
        int[] due = {1, 1, 2, 4, 4, 5, 1, 5};
        for (int i = 0; i < words.length; i++) {
            tell(words[i]);
            due(due[i], "mirror");
        }
        tell("a".repeat(64));
        due(64, "mirror");
    }

    private void areLyndon(String word, int... sizes) {
        tell(word);
        due(sizes.length, "lyndon", -1);
        for (int k = 0; k < sizes.length; k++) {
            due(sizes[k], "lyndon", k);
        }
        due(-1, "lyndon", sizes.length);
        due(-1, "lyndon", -2);
    }

    private void lyndon() {
        promise(45);
        areLyndon("");
        areLyndon("a", 1);
        areLyndon("aab", 3);
        areLyndon("ba", 1, 1);
        areLyndon("aaa", 1, 1, 1);
        areLyndon("abaabaaab", 2, 3, 4);
        areLyndon("ababaab", 2, 2, 3);
        areLyndon("abaab", 2, 3);
        areLyndon("aabaa", 3, 1, 1);
        on("letters 4;");
        areLyndon("abcabd", 6);
        areLyndon("dcba", 1, 1, 1, 1);
    }

    private void turned() {
        promise(46);
        due(-1, "turned");
        on("letters 3;");
        String[] words = {"a", "ba", "baa", "abab", "cab", "aaa", "abaab", "baabaa", "cbcb"};
        int[] due = {0, 1, 1, 0, 1, 0, 2, 1, 1};
        for (int i = 0; i < words.length; i++) {
            tell(words[i]);
            due(due[i], "turned");
        }
    }

    private void local() {
        promise(47);
        due(ARGUMENT, "local", 0);
        due(ARGUMENT, "local", 1);
        tell("a");
        due(ARGUMENT, "local", 1);
        tell("ab");
        due(2, "local", 1);
        due(ARGUMENT, "local", 2);
        due(ARGUMENT, "local", -1);
        tell("aabaab");
        int[] due = {1, 3, 3, 1, 3};
        for (int place = 1; place <= 5; place++) {
            due(due[place - 1], "local", place);
        }
        due(ARGUMENT, "local", 0);
        due(ARGUMENT, "local", 6);
    }
}
