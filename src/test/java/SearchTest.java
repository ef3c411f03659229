/** Promises 20 to 26, 39 to 43: what FREE words there are. */
public final class SearchTest extends Due {
    private static final String SQUARES = "letters 3;limit under 2 over 1;";
    private static final String CUT_FIRST = "letters 3;limit under 7 over 4;";

    public static void main(String[] args) {
        SearchTest test = new SearchTest();
        test.goes();
        test.further();
        test.first();
        test.next();
        test.many();
        test.longest();
        test.growth();
        test.stuck();
        test.rank();
        test.nth();
        test.ahead();
        test.limit();
        test.close("SearchTest");
    }

    private void dueOf(String word, Object want, String call) {
        tell(word);
        due(want, call);
    }

    private void goes() {
        promise(20);
        due(3, "goes");
        dueOf("a".repeat(63), 3, "goes");
        dueOf("a".repeat(64), 0, "goes");
        on(SQUARES);
        dueOf("", 7, "goes");
        dueOf("a", 6, "goes");
        dueOf("aba", 4, "goes");
        dueOf("abacaba", 0, "goes");
        dueOf("aa", 0, "goes");
        is("aa");
        on("letters 4;pattern p xyx;avoid p;");
        dueOf("abbc", 12, "goes");
    }

    private void further() {
        promise(21);
        due(20, "further");
        dueOf("ab".repeat(25), 14, "further");
        dueOf("ab".repeat(22), 20, "further");
        dueOf("ab".repeat(32), 0, "further");
        on("letters 2;limit under 2 over 1;");
        dueOf("", 3, "further");
        dueOf("a", 2, "further");
        dueOf("ab", 1, "further");
        dueOf("aba", 0, "further");
        dueOf("aa", 0, "further");
        on(SQUARES);
        dueOf("abacaba", 0, "further");
        dueOf("abacab", 20, "further");
        dueOf("abaca", 20, "further");
        is("abaca");
        on("letters 3;pattern p xyxzx;avoid p;");
        due(-2, "further");
        on("letters 2;limit under 1 over 1;");
        due(0, "further");
    }

    private void first() {
        promise(22);
        due(5, "first", 5);
        is("aaaaa");
        due(40, "first", 40);
        due(ARGUMENT, "first", 0);
        due(ARGUMENT, "first", 41);
        due(ARGUMENT, "first", -1);
        on(SQUARES);
        due(1, "first", 1);
        due(4, "first", 3);
        due(11, "first", 7);
        is("abacaba");
        due(17, "first", 8);
        is("abacabca");
        due(82, "first", 40);
        is("abacabcacbabcabacabcacbacabacbabcabacabc");
        due(5, "count", 5);
        on("letters 2;limit under 2 over 1;");
        tell("bb");
        due(-1, "first", 4);
        is("bb");
        due(1, "count", 5);
        on(CUT_FIRST);
        due(-2, "first", 40);
        is("");
        due(0, "count", 5);
        on("letters 2;limit under 1 over 1;");
        due(-1, "first", 1);
    }

    private void next() {
        promise(23);
        due(-1, "next");
        dueOf("abb", 0, "next");
        is("baa");
        dueOf("bbb", -1, "next");
        is("bbb");
        due(3, "count", 5);
        dueOf("a".repeat(41), STATE, "next");
        is("a".repeat(41));
        on(SQUARES);
        due(82, "first", 40);
        due(37, "next");
        is("abacabcacbabcabacabcacbacabacbabcabacbca");
        dueOf("aaa", 1, "next");
        is("aba");
        dueOf("abacaba", 6, "next");
        is("abacabc");
        dueOf("cbcacbc", -1, "next");
        dueOf("abbbbbb", 2, "next");
        is("abcabac");
        // none on from there in 5000 TRIES
        on(CUT_FIRST);
        dueOf("a".repeat(40), -2, "next");
        due(1, "count", 5);
        is("a".repeat(40));
    }

    private void areMany(int... many) {
        for (int n = 0; n < many.length; n++) {
            due(many[n], "many", n);
        }
    }

    private void many() {
        promise(24);
        areMany(1, 2, 4, 8, 16, 32, 64, 128, 256, 512, 1024, 2048, -2, -2);
        due(ARGUMENT, "many", -1);
        due(ARGUMENT, "many", 41);
        due(-2, "many", 40);
        on(SQUARES);
        areMany(1, 3, 6, 12, 18, 30, 42, 60, 78, 108, 144, 204, 264, 342, 456, -2);
        on("letters 2;limit upto 2 over 1;");
        areMany(1, 2, 4, 6, 10, 14, 20, 24, 30, 36, 44, 48, 60, 60, 62, 72);
        on("letters 2;limit under 3 over 1;");
        areMany(1, 2, 4, 6, 10, 16, 24, 36, 56, 80, 118, 174, 254, 378);
        on("letters 2;limit under 1 over 2;");
        areMany(1, 0, 0);
        due(0, "many", 40);
        on("letters 2;pattern p xx;avoid p;");
        areMany(1, 2, 2, 2, 0);
        on("letters 3;pattern p x;avoid p;");
        areMany(1, 0, 0);
        is("");
        due(0, "count", 5);
    }

    private void longest() {
        promise(25);
        due(40, "longest");
        on("letters 2;limit under 2 over 1;");
        due(3, "longest");
        on(SQUARES);
        due(40, "longest");
        on(CUT_FIRST);
        due(-2, "longest");
        on("letters 2;pattern p xyxy;avoid p;");
        due(18, "longest");
        on("letters 2;limit under 1 over 1;");
        due(0, "longest");
        on("letters 4;limit under 4 over 3;");
        due(5, "longest");
    }

    private void growth() {
        promise(26);
        due(2000, "growth", 0);
        due(2000, "growth", 10);
        due(-2, "growth", 11);
        due(-2, "growth", 39);
        due(ARGUMENT, "growth", -1);
        due(ARGUMENT, "growth", 40);
        on(SQUARES);
        int[] due = {3000, 2000, 2000, 1500, 1666, 1400, 1428, 1300};
        for (int n = 0; n < due.length; n++) {
            due(due[n], "growth", n);
        }
        due(1333, "growth", 13);
        due(-2, "growth", 14);
        on("letters 2;limit under 2 over 1;");
        due(1000, "growth", 2);
        due(0, "growth", 3);
        due(-1, "growth", 4);
        due(-1, "growth", 39);
    }

    private void stuck() {
        promise(39);
        due(0, "stuck", 0);
        due(0, "stuck", 11);
        due(-2, "stuck", 12);
        due(ARGUMENT, "stuck", -1);
        due(ARGUMENT, "stuck", 41);
        on(SQUARES);
        int[] due = {0, 0, 0, 0, 0, 0, 0, 6, 0, 0, 0, 6, 6, 6, 6, -2};
        for (int n = 0; n < due.length; n++) {
            due(due[n], "stuck", n);
        }
        on("letters 2;limit under 2 over 1;");
        due(2, "stuck", 3);
        due(0, "stuck", 40);
        on("letters 2;limit under 1 over 1;");
        due(1, "stuck", 0);
        due(0, "stuck", 1);
    }

    private void rank() {
        promise(40);
        due(0, "rank");
        dueOf("abab", 5, "rank");
        dueOf("b".repeat(12), -2, "rank");
        dueOf("a".repeat(40), 0, "rank");
        dueOf("a".repeat(41), STATE, "rank");
        on(SQUARES);
        dueOf("abacabc", 1, "rank");
        dueOf("cbcacbc", 59, "rank");
        dueOf("ccccccc", 60, "rank");
        dueOf("aaaaaaa", 0, "rank");
        on("letters 2;limit under 2 over 1;");
        dueOf("bbb", 2, "rank");
        dueOf("b".repeat(40), 0, "rank");
        on(CUT_FIRST);
        dueOf("a".repeat(40), -2, "rank");
    }

    private void nth() {
        promise(41);
        due(ARGUMENT, "nth", 0, 0);
        due(ARGUMENT, "nth", 41, 0);
        due(ARGUMENT, "nth", 3, -1);
        due(11, "nth", 3, 5);
        is("bab");
        due(-1, "nth", 3, 8);
        due(-1, "nth", 3, Integer.MAX_VALUE);
        due(-2, "nth", 12, Integer.MAX_VALUE);
        is("bab");
        due(1, "count", 5);
        // of all words of 12 LETTERS the 2496th takes just as many TRIES as there may be
        due(5000, "nth", 12, 2496);
        is("baabbbaaaaaa");
        due(2496, "rank");
        due(-2, "nth", 12, 2497);
        due(11, "next");
        due(-2, "rank");
        on("letters 2;limit under 2 over 1;");
        due(4, "nth", 3, 0);
        due(9, "nth", 3, 1);
        is("bab");
        on(SQUARES);
        due(13, "nth", 7, 1);
        is("abacabc");
        due(82, "nth", 40, 0);
        on(CUT_FIRST);
        due(-2, "nth", 40, 0);
    }

    private void ahead() {
        promise(42);
        due(3, "ahead");
        dueOf("a".repeat(63), 3, "ahead");
        dueOf("a".repeat(64), 0, "ahead");
        on(SQUARES);
        dueOf("", 7, "ahead");
        dueOf("bac", 5, "ahead");
        dueOf("aba", 4, "ahead");
        dueOf("abacaba", 0, "ahead");
        dueOf("abb", 0, "ahead");
        is("abb");
    }

    private void limit() {
        promise(43);
        due(ARGUMENT, "limit", -1, 1, 1);
        due(ARGUMENT, "limit", 3, 1, 1);
        due(ARGUMENT, "limit", 1, 0, 1);
        due(ARGUMENT, "limit", 1, 100, 1);
        due(ARGUMENT, "limit", 1, 1, 0);
        due(ARGUMENT, "limit", 1, 1, 10);
        due(ARGUMENT, "limit", 0, 1, 10);
        due(0, "count", 8);
        due(0, "limit", 1, 99, 9);
        due(1, "limit", 2, 2, 1);
        due(10, "many", 4);
        due(2, "limit", 1, 2, 1);
        due(2, "many", 3);
        due(1, "limit", 0, 99, 9);
        due(8, "many", 3);
        due(0, "limit", 0, 1, 1);
    }
}
