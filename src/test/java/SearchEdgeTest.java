/** Terms 3 and promises 20 to 26, 39 to 43 at their bounds: 5000 TRIES, 20, 40 and 64 LETTERS, none and CUT. */
public final class SearchEdgeTest extends Due {
    private static final int LEAST = Integer.MIN_VALUE, MOST = Integer.MAX_VALUE;
    private static final String ANY = "letters 2;";
    private static final String NO_SQUARES = "letters 2;limit under 2 over 1;";
    private static final String SQUARES = "letters 3;limit under 2 over 1;";
    private static final String NOTHING = "letters 4;limit under 1 over 1;";
    // FREE words of 39 LETTERS at most, found in less than 5000 TRIES
    private static final String SHORT = avoiding("letters 2;limit under 20 over 7;", "xyxzzy");

    public static void main(String[] args) {
        SearchEdgeTest test = new SearchEdgeTest();
        test.goes();
        test.further();
        test.furtherTries();
        test.first();
        test.firstTries();
        test.next();
        test.nextTries();
        test.many();
        test.manyTries();
        test.longest();
        test.longestTries();
        test.growth();
        test.stuck();
        test.rank();
        test.nth();
        test.nthTries();
        test.ahead();
        test.isOneMore();
        test.limit();
        test.close("SearchEdgeTest");
    }

    private static String avoiding(String text, String... patterns) {
        StringBuilder made = new StringBuilder(text);
        for (int k = 0; k < patterns.length; k++) {
            char name = (char) ('p' + k);
            made.append("pattern ").append(name).append(' ').append(patterns[k]).append(";avoid ").append(name).append(';');
        }
        return made.toString();
    }

    private void dueOf(String word, Object want, String call) {
        tell(word);
        due(want, call);
        is(word);
    }

    private void goes() {
        edge(20, "the empty word, one of 63, of 64 LETTERS");
        dueOf("", 3, "goes");
        dueOf("a".repeat(63), 3, "goes");
        edge(20, "of one of 64 LETTERS 0");
        dueOf("a".repeat(64), 0, "goes");
        edge(20, "LETTERS as bits");
        on("letters 4;limit upto 1 over 1;");
        dueOf("", 15, "goes");
        dueOf("c", 11, "goes");
        dueOf("cb", 9, "goes");
        dueOf("cbd", 1, "goes");
        dueOf("cbda", 0, "goes");
        edge(20, "of one that is not FREE 0");
        on(avoiding("letters 3;limit upto 2 over 1;", "xyyx"));
        dueOf("aaa", 0, "goes");
        dueOf("abba", 0, "goes");
        dueOf("abb", 4, "goes");
        on(NOTHING);
        dueOf("", 0, "goes");
    }

    private void further() {
        edge(21, "20 at most, no more than 64 in all");
        int[] sizes = {0, 1, 43, 44, 45, 62, 63};
        int[] due = {20, 20, 20, 20, 19, 2, 1};
        for (int i = 0; i < sizes.length; i++) {
            dueOf("b".repeat(sizes[i]), due[i], "further");
        }
        edge(21, "of 64 LETTERS 0");
        dueOf("b".repeat(64), 0, "further");
        edge(21, "0, if it is not FREE");
        on(NO_SQUARES);
        dueOf("aa", 0, "further");
        dueOf("aba", 0, "further");
        dueOf("ab", 1, "further");
        dueOf("", 3, "further");
        on(NOTHING);
        dueOf("", 0, "further");
        edge(21, "just 18, 19, 20 can come");
        on(avoiding(ANY, "yzyxyx"));
        dueOf("aaabb", 18, "further");
        on(avoiding(ANY, "zzxzx"));
        dueOf("aaabaaaabba", 19, "further");
        on(avoiding(ANY, "zzyzy"));
        dueOf("aaaabaaaa", 20, "further");
        due(2, "goes");
        due(10, "push", 1);
        due(19, "further");
    }

    private void furtherTries() {
        edge(21, "5000 TRIES: as far as it can go");
        on(avoiding("letters 4;", "zzzxz", "xzyxy"));
        dueOf("aaaabbcb", 17, "further");
        edge(21, "5000 TRIES: 20 LETTERS");
        on(avoiding("letters 4;", "yzyyxz", "zxxyzy"));
        dueOf("aaaaa", 20, "further");
        edge(21, "5001 TRIES: CUT");
        on(avoiding("letters 4;", "xyyzx"));
        dueOf("aaaabbc", -2, "further");
        due(1, "count", 5);
    }

    private void stays(Object want, String word, String call, long... numbers) {
        tell(word);
        due(1, "count", 5);
        due(want, call, numbers);
        due(1, "count", 5);
        is(word);
        due(0, "undo");
    }

    private void first() {
        edge(22, "1 to 40 LETTERS");
        due(1, "first", 1);
        is("a");
        due(39, "first", 39);
        due(40, "first", 40);
        is("a".repeat(40));
        due(3, "count", 5);
        due(2, "undo");
        is("a".repeat(39));
        edge(22, "NONE: THE WORD stays, no ACT");
        on(NO_SQUARES);
        stays(-1, "bab", "first", 4);
        stays(-1, "bab", "first", 40);
        tell("bab");
        due(4, "first", 3);
        is("aba");
        on(NOTHING);
        stays(-1, "dd", "first", 1);
        edge(22, "CUT: THE WORD stays, no ACT");
        on("letters 3;limit under 7 over 4;");
        stays(-2, "cc", "first", 40);
        edge(22, "of 39 LETTERS, not of 40");
        on(SHORT);
        tell("bb");
        due(-1, "first", 40);
        is("bb");
        due(1, "first", 1);
        due(2, "count", 5);
    }

    private void firstTries() {
        String most = avoiding("letters 4;limit upto 18 over 5;", "zyzxyx", "zzxzy");
        edge(22, "5000 TRIES");
        on(most);
        due(5000, "first", 19);
        due(19, "count", 4);
        staysOf20();
        edge(22, "5002 TRIES: CUT");
        on(avoiding("letters 4;", "xxyxz", "yxyx"));
        staysOf20();
        edge(22, "4999 TRIES");
        on(avoiding("letters 3;", "zyxzz", "xxxyx"));
        due(4999, "first", 33);
    }

    private void staysOf20() {
        tell("dad");
        due(-2, "first", 20);
        is("dad");
    }

    private void next() {
        edge(23, "NONE where it is empty");
        stays(-1, "", "next");
        edge(23, "one LETTER");
        tell("a");
        due(0, "next");
        is("b");
        isLast("b");
        edge(23, "40 LETTERS");
        tell("a".repeat(40));
        due(39, "next");
        is("a".repeat(39) + "b");
        due(38, "next");
        is("a".repeat(38) + "ba");
        tell("a" + "b".repeat(39));
        due(0, "next");
        is("b" + "a".repeat(39));
        isLast("b".repeat(40));
        edge(23, "if all ahead of it is FREE");
        on(SQUARES);
        tell("aabc");
        due(1, "next");
        is("abac");
        tell("acaccc");
        due(2, "next");
        is("acbabc");
        on(NOTHING);
        isLast("abcd");
        on("letters 3;limit under 1 over 1;");
        isLast("c");
        edge(23, "NONE behind the last one");
        on(NO_SQUARES);
        isLast("bab");
        isLast("bbbb");
        tell("aaa");
        due(1, "next");
        is("aba");
        due(0, "next");
        is("bab");
    }

    /** There is none behind this word. */
    private void isLast(String word) {
        tell(word);
        due(-1, "next");
        is(word);
    }

    private void nextTries() {
        edge(23, "5000 TRIES");
        on(avoiding("letters 4;", "xyyzx"));
        tell("aaaabbcacacaacaddaaadbcccdc");
        due(7, "next");
        is("aaaabbcbdbcdbdcbbcbdbddbddd");
        edge(23, "5001 TRIES: CUT; THE WORD stays, no ACT");
        on(avoiding("letters 2;limit under 4 over 1;", "zyyxyx"));
        stays(-2, "aabababbbbabbabbaaaabaa", "next");
    }

    private void many() {
        edge(24, "0: 1");
        due(1, "many", 0);
        on(NOTHING);
        due(1, "many", 0);
        due(0, "many", 1);
        due(0, "many", 40);
        edge(24, "40 LETTERS, of 39 at most");
        on(SHORT);
        due(0, "many", 40);
        due(2, "many", 1);
        edge(24, "CUT");
        due(2048, "many", 11);
        due(-2, "many", 12);
        due(-2, "many", 40);
        is("");
        due(0, "count", 5);
    }

    private void isMany(int n, Object many) {
        due(many, "many", n);
        // TRIES of SEARCH alone: as many
        if (many.equals(-2)) {
            due(-2, "stuck", n);
            due(-2, "growth", n - 1);
        }
    }

    private void manyTries() {
        edge(24, "4998 TRIES of 3 LETTERS (they are 3 for each word, and 3 more each time)");
        on("letters 3;limit under 7 over 4;");
        isMany(23, 102);
        due(108, "many", 22);
        due(944, "growth", 22);
        isMany(24, -2);
        edge(24, "4998 TRIES of 2 LETTERS");
        on(avoiding(ANY, "xyzzyx"));
        isMany(16, 176);
        due(258, "many", 15);
        due(682, "growth", 15);
        edge(24, "5002 TRIES of 2 LETTERS");
        on(avoiding("letters 2;limit under 20 over 5;", "zyzzyy", "yxzxxz"));
        isMany(16, -2);
        edge(24, "4996 TRIES of 4 LETTERS");
        on(avoiding("letters 4;limit under 22 over 7;", "yyyxz", "xzzyz"));
        isMany(6, 3204);
        isMany(7, -2);
    }

    private void longest() {
        edge(25, "none, one, all LETTERS");
        on(NOTHING);
        due(0, "longest");
        on("letters 4;limit upto 1 over 1;");
        due(4, "longest");
        on("letters 2;limit upto 1 over 1;");
        due(2, "longest");
        edge(25, "39 LETTERS");
        on(SHORT);
        due(39, "longest");
        edge(25, "40 at most");
        on(SQUARES);
        due(40, "longest");
        on(ANY);
        tell("bb");
        due(40, "longest");
        is("bb");
        due(1, "count", 5);
        edge(25, "40 LETTERS, not 41");
        on(avoiding(ANY, "xyxzzy", "zxyyyz"));
        due(40, "longest");
        edge(25, "of LETTERS in all, though THE WORD is not FREE");
        on(NO_SQUARES);
        tell("aabb");
        due(3, "longest");
    }

    private void longestTries() {
        edge(25, "5000 TRIES");
        on(avoiding("letters 3;", "xyxxzx", "yyzyyz", "xxxz"));
        due(40, "longest");
        edge(25, "5001 TRIES: CUT");
        on(avoiding("letters 3;", "zzz", "xyzxxy", "yzyyxz"));
        due(-2, "longest");
        edge(25, "4998 TRIES through all");
        on(avoiding(ANY, "xxzzyy", "yxzzxx", "yxyxy"));
        due(32, "longest");
        edge(25, "5006 TRIES through all: CUT");
        on(avoiding(ANY, "zxxxz", "yzyyyy", "yzxyzx"));
        due(-2, "longest");
    }

    private void growth() {
        edge(26, "0 to 39");
        due(2000, "growth", 0);
        on("letters 4;");
        due(4000, "growth", 0);
        on(SHORT);
        due(0, "growth", 39);
        on(NO_SQUARES);
        due(-1, "growth", 39);
        on(ANY);
        due(-2, "growth", 39);
        edge(26, "NONE: there are none of n");
        on(NOTHING);
        due(0, "growth", 0);
        due(-1, "growth", 1);
        edge(26, "cut");
        on(SQUARES);
        due(1666, "growth", 4);
        due(1428, "growth", 6);
        edge(26, "CUT of n + 1, of n");
        due(2000, "growth", 10);
        due(-2, "growth", 11);
        due(-2, "growth", 12);
    }

    private void stuck() {
        edge(39, "0 LETTERS");
        due(0, "stuck", 0);
        on(NOTHING);
        due(1, "stuck", 0);
        due(0, "stuck", 1);
        edge(39, "39, 40 LETTERS");
        on(SHORT);
        due(0, "stuck", 40);
        edge(39, "all of them, none of them");
        on("letters 4;limit upto 1 over 1;");
        due(24, "stuck", 4);
        due(0, "stuck", 3);
        due(0, "stuck", 5);
        edge(39, "by TRIES of SEARCH alone");
        due(0, "stuck", 11);
        due(-2, "stuck", 12);
        on("letters 3;limit under 7 over 4;");
        due(30, "stuck", 23);
        due(-2, "stuck", 24);
    }

    private void rank() {
        edge(40, "the empty word");
        due(0, "rank");
        on(NOTHING);
        due(0, "rank");
        edge(40, "one LETTER");
        dueOf("a", 0, "rank");
        dueOf("b", 1, "rank");
        on("letters 4;");
        dueOf("d", 3, "rank");
        edge(40, "40 LETTERS");
        dueOf("a".repeat(40), 0, "rank");
        dueOf("a".repeat(39) + "b", 1, "rank");
        dueOf("a".repeat(38) + "ba", 2, "rank");
        edge(40, "the first, the last, behind the last");
        on(NO_SQUARES);
        dueOf("aaa", 0, "rank");
        dueOf("aba", 0, "rank");
        dueOf("abb", 1, "rank");
        dueOf("bab", 1, "rank");
        dueOf("bba", 2, "rank");
        dueOf("bbb", 2, "rank");
        dueOf("bbbb", 0, "rank");
        edge(40, "5000 TRIES up to the first that is not");
        due(5000, "nth", 12, 2496);
        due(2496, "rank");
        edge(40, "5001 TRIES: CUT");
        due(5000, "nth", 12, 2496);
        due(11, "next");
        due(-2, "rank");
        due(2, "count", 5);
    }

    private void nth() {
        edge(41, "n 1 to 40, k 0 on");
        due(1, "nth", 1, 0);
        is("a");
        due(2, "nth", 1, 1);
        is("b");
        due(40, "nth", 40, 0);
        is("a".repeat(40));
        due(41, "nth", 40, 1);
        is("a".repeat(39) + "b");
        due(4, "count", 5);
        edge(41, "NONE: THE WORD stays, no ACT");
        stays(-1, "ba", "nth", 1, 2);
        stays(-1, "ba", "nth", 3, 8);
        stays(-1, "ba", "nth", 11, MOST);
        on(SHORT);
        stays(-1, "ba", "nth", 40, 0);
        edge(41, "CUT: THE WORD stays, no ACT");
        stays(-2, "ba", "nth", 12, MOST);
        stays(-2, "ba", "nth", 40, 5000);
    }

    private void nthTries() {
        edge(41, "5000 TRIES");
        due(5000, "nth", 12, 2496);
        is("baabbbaaaaaa");
        due(1, "count", 5);
        due(4993, "nth", 12, 2495);
        edge(41, "5001 TRIES: CUT");
        stays(-2, "ba", "nth", 12, 2497);
    }

    private void ahead() {
        edge(42, "the empty word");
        dueOf("", 3, "ahead");
        on(NOTHING);
        dueOf("", 0, "ahead");
        edge(42, "63 LETTERS");
        dueOf("a".repeat(63), 3, "ahead");
        edge(42, "of one of 64 LETTERS 0");
        dueOf("a".repeat(64), 0, "ahead");
        edge(42, "LETTERS as bits");
        on("letters 4;limit upto 1 over 1;");
        dueOf("", 15, "ahead");
        dueOf("c", 11, "ahead");
        dueOf("cb", 9, "ahead");
        dueOf("bcd", 1, "ahead");
        dueOf("dcba", 0, "ahead");
        edge(42, "so that all is FREE");
        on(avoiding("letters 3;limit upto 2 over 1;", "xyyxx"));
        dueOf("aab", 6, "ahead");
        dueOf("bbaa", 4, "ahead");
        dueOf("aaab", 0, "ahead");
    }

    private void isOneMore() {
        edge(42, "all is THE WORD and one LETTER, no more");
        on(avoiding("letters 3;", "xyz"));
        dueOf("", 7, "ahead");
        dueOf("c", 7, "ahead");
        dueOf("ca", 0, "ahead");
        on(avoiding("letters 3;limit upto 1 over 1;", "xyzxyz"));
        dueOf("ca", 2, "ahead");
        dueOf("cab", 0, "ahead");
        edge(20, "THE WORD and one LETTER, no more");
        on(avoiding("letters 3;", "xyz"));
        dueOf("", 7, "goes");
        dueOf("c", 7, "goes");
        dueOf("ca", 0, "goes");
    }

    private void isLimit(int was, int kind, int above, int below) {
        due(was, "limit", kind, above, below);
        due(kind == 0 ? 0 : above, "count", 6);
        due(kind == 0 ? 0 : below, "count", 7);
        due(kind, "count", 8);
    }

    private void limit() {
        edge(43, "N (1 to 99) over N (1 to 9), which kind it was");
        isLimit(0, 1, 1, 1);
        isLimit(1, 1, 99, 9);
        isLimit(1, 2, 1, 9);
        isLimit(2, 2, 99, 1);
        isLimit(2, 0, 99, 9);
        isLimit(0, 0, 1, 1);
        isLimit(0, 2, 98, 8);
        edge(43, "of the limit told; no ACT; THE WORD stays");
        on(SQUARES);
        tell("aab");
        due(1, "ends");
        isLimit(1, 2, 2, 1);
        due(-1, "ends");
        is("aab");
        due(1, "count", 5);
        put("letters 2;");
        due(2, "read");
        due(0, "count", 8);
        due(0, "limit", 0, 1, 1);
    }
}
