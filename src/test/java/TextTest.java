/** Promises 1 to 10: a new object, the tape, texts and words that are read, letters, acts undone; and 52. */
public final class TextTest extends Due {
    public static void main(String[] args) {
        TextTest test = new TextTest();
        test.aNewObject();
        test.feed();
        test.end();
        test.read();
        test.faults();
        test.word();
        test.letters();
        test.acts();
        test.count();
        test.close("TextTest");
    }

    private void aNewObject() {
        promise(1);
        due(2, "count", 0);
        due(0, "count", 4);
        due(0, "count", 8);
        due(-1, "fault");
        due(0, "count", 1);
        due(0, "count", 2);
    }

    private void feed() {
        promise(2);
        for (int i = 1; i <= 20; i++) {
            due(20 * i, "feed", 1, 2, 3, 4, 5);
        }
        due(-1, "feed", 1, 2, 3, 4, 5);
        due(true, "end", 381);
        due(-1, "feed", 1, 2, 3, 4, 5);
        due(true, "end", 380);
        due(400, "feed", -1, -1, -1, -1, -1);
        due(true, "end", 400);
        fresh();
        // abab, ba__, and bytes over 127 are no letters
        due(20, "feed", 0x61626162, 0x62612020, 0x20202020, 0x20200a09, 0x20202020);
        due(6, "word");
        is("ababba");
        due(20, "feed", 0x616261e2, 0, 0, 0, 0);
        due(ARGUMENT, "word");
        due(3, "fault");
    }

    private void end() {
        promise(3);
        due(true, "end", 0);
        due(false, "end", 1);
        due(false, "end", -1);
        due(20, "feed", 0x61616161, 0x61616161, 0x61616161, 0x61616161, 0x61616161);
        due(false, "end", 21);
        due(false, "end", Integer.MIN_VALUE);
        due(false, "end", Integer.MAX_VALUE);
        due(true, "end", 20);
        due(true, "end", 3);
        due(false, "end", 4);
        due(3, "word");
        due(false, "end", 1);
    }

    private void read() {
        promise(4);
        on("letters 4;");
        due(0, "count", 8);
        on("letters 3; \n\t");
        on("\n\tletters4;limit under 99over9;map m a ab b abcdab c\td d\na;");
        due(1, "count", 1);
        due(99, "count", 6);
        due(9, "count", 7);
        due(1, "count", 8);
        due(6, "imaged", 0, 1, -1);
        on("letters 02 ; limit upto 07 over 04 ; pattern a x ; avoid a ; pattern x zyx ; ");
        due(2, "count", 8);
        due(7, "count", 6);
        due(4, "count", 7);
        due(2, "count", 2);
        due(1, "count", 3);
        due(1, "pattern", 0, 2);
        due(0, "pattern", 1, 2);
        // a text that is wrong leaves all as it was, and no more tape
        tell("");
        due(1, "push", 1);
        put("letters 3; limit under 1 over 1; map m a a; ");
        due(ARGUMENT, "read");
        due(42, "fault");
        due(2, "count", 0);
        due(2, "count", 8);
        due(2, "count", 2);
        due(1, "pattern", 0, 2);
        is("b");
        due(2, "count", 5);
        due(false, "end", 1);
        // one that is right comes in place of all
        put("letters 3;");
        due(3, "read");
        due(-1, "fault");
        is("");
        due(0, "count", 5);
        due(0, "count", 8);
        due(0, "count", 6);
        due(0, "count", 2);
        due(-1, "undo");
        // what an earlier text told is gone, though its rows are used again
        on("letters 4; map m a abcdab b bb c c d d; pattern p xyzxyz; pattern q yy; avoid p; avoid q;");
        String after = "letters 2; map n a b b a; pattern r z; pattern s xy;";
        for (int time = 0; time < 2; time++) {
            put(after);
            due(2, "read");
            due(2, "count", 0);
            due(1, "count", 1);
            due(2, "count", 2);
            due(0, "count", 3);
            due(1, "pattern", 0, 0);
            due(4, "pattern", 0, 1);
            due(0, "pattern", 0, 2);
            due(2, "pattern", 1, 0);
            due(1, "imaged", 0, 0, -1);
            due(1, "uniform", 0);
            put("letters 4; pattern p yyyyyy; pattern q y; pattern r x; avoid r; avoid q; avoid p;");
            due(4, "read");
            due(3, "count", 3);
        }
        put("letters 2;");
        due(2, "read");
        put("letters 2;");
        due(2, "read");
        due(0, "count", 3);
        // four maps, four patterns, all named unlike
        on("letters 2;map a a b b a;map b a b b b;map x a a b a;map letter a aaaaaa b b;"
            + "pattern y x;pattern z yyyyyy;pattern mapp z;pattern patter xyzxyz;avoid z;avoid y;avoid patter;avoid mapp;");
        due(4, "count", 1);
        due(4, "count", 2);
        due(4, "count", 3);
    }

    private void fault(int place, String text) {
        put(text);
        due(ARGUMENT, "read");
        due(place, "fault");
    }

    private void faults() {
        promise(6);
        fault(0, "");
        fault(3, " \n\t");
        fault(0, "lett");
        fault(0, "lettersx 2;");
        fault(1, " limit under 2 over 1;");
        fault(0, "2");
        fault(8, "letters two;");
        fault(8, "letters 1;");
        fault(8, "letters 5;");
        fault(8, "letters 22;");
        fault(8, "letters 002;");
        fault(8, "letters ");
        fault(9, "letters 2");
        fault(11, "letters 2  ");
        fault(10, "letters 2 limit under 2 over 1;");
        fault(10, "letters 2;letters 2;");
        fault(10, "letters 2;;");
        fault(10, "letters 2;lim");
        fault(11, "letters 2; 7;");
        fault(16, "letters 2;limit below 2 over 1;");
        fault(16, "letters 2;limit un");
        fault(22, "letters 2;limit under 0 over 1;");
        fault(22, "letters 2;limit under 100 over 1;");
        fault(23, "letters 2;limit under 2");
        fault(24, "letters 2;limit under 2 by 1;");
        fault(29, "letters 2;limit under 2 over 0;");
        fault(29, "letters 2;limit under 2 over 10;");
        fault(31, "letters 2;limit under 2 over 1;limit upto 2 over 1;");
        fault(14, "letters 2;map map a a b b;");
        fault(14, "letters 2;map letters a a b b;");
        for (String word : new String[] {"limit", "under", "upto", "over", "map", "avoid", "pattern", "letters"}) {
            fault(18, "letters 2;pattern " + word + " x;");
        }
        fault(26, "letters 2;pattern p x;map p a a b b;");
        fault(42, "letters 2;pattern o x;pattern p y;pattern p x;");
        fault(13, "letters 2;map;");
        fault(15, "letters 2;map m;");
        fault(17, "letters 2;map m a;");
        fault(15, "letters 2;limit;");
        fault(21, "letters 2;limit under;");
        fault(17, "letters 2;pattern;");
        fault(19, "letters 2;pattern p;");
        fault(15, "letters 2;avoid;");
        fault(7, "letters;");
        fault(14, "letters 2;map abcdefg a a b b;");
        fault(14, "letters 2;map 2 a a b b;");
        fault(16, "letters 2;map m b a a b;");
        fault(16, "letters 2;map m ab a b b;");
        fault(18, "letters 2;map m a c b b;");
        fault(18, "letters 2;map m a abababa b b;");
        fault(19, "letters 2;map m a a; b b;");
        fault(24, "letters 2;map m a a b b c c;");
        fault(24, "letters 2;map m a a b b;xx");
        fault(28, "letters 2;map m a a b b;map m a a b b;");
        fault(32, "letters 2;map m a a b b;pattern m x;");
        fault(20, "letters 2;pattern p xyzxyzx;");
        fault(20, "letters 2;pattern p xa;");
        fault(20, "letters 2;pattern p ;");
        fault(18, "letters 2;pattern upto x;");
        fault(16, "letters 2;avoid p;pattern p x;");
        fault(29, "letters 2;pattern p xx;avoid q;");
        fault(38, "letters 2;pattern p xx;avoid p; avoid p;");
        fault(30, "letters 2;map m a a b b;avoid m;");
        String maps = "letters 2;map a a a b b;map b a a b b;map c a a b b;map d a a b b;";
        fault(maps.length(), maps + "map e a a b b;");
        String patterns = "letters 2;pattern a x;pattern b y;pattern c z;pattern d x;";
        fault(patterns.length(), patterns + "pattern e x;");
        fault(10, "letters 2;" + (char) 200);
        fault(400, "letters 2;" + " ".repeat(385) + "limit");
        fault(396, "letters 2;" + " ".repeat(386) + "limi");
    }

    private void word() {
        promise(5);
        tell("");
        is("");
        tell(" \n\tabba\t");
        is("abba");
        due(2, "count", 5);
        put("ab ba");
        due(ARGUMENT, "word");
        due(3, "fault");
        put(" abca!");
        due(ARGUMENT, "word");
        due(3, "fault");
        is("abba");
        due(2, "count", 5);
        tell("a".repeat(64));
        due(-1, "fault");
        put("  " + "b".repeat(65));
        due(ARGUMENT, "word");
        due(66, "fault");
        put("b".repeat(66) + "?");
        due(ARGUMENT, "word");
        due(64, "fault");
        put("b".repeat(64) + "?");
        due(ARGUMENT, "word");
        due(64, "fault");
        is("a".repeat(64));
        due(false, "end", 1);
        tell("   ");
        is("");
        on("letters 4;");
        tell("abcd");
        put("abcde");
        due(ARGUMENT, "word");
        due(4, "fault");
        put("\rab");
        due(ARGUMENT, "word");
        due(0, "fault");
    }

    private void letters() {
        promise(7);
        tell("abba");
        due(0, "letter", 0);
        due(1, "letter", 2);
        due(0, "letter", 3);
        due(-1, "letter", 4);
        due(-1, "letter", -1);
        due(-1, "letter", Integer.MIN_VALUE);
        due(-1, "letter", Integer.MAX_VALUE);
        promise(8);
        due(1, "push", 1);
        due(2, "push", 0);
        due(ARGUMENT, "push", 2);
        due(ARGUMENT, "push", -1);
        is("ba");
        for (int n = 3; n <= 64; n++) {
            due(n, "push", n % 2);
        }
        due(STATE, "push", 0);
        due(ARGUMENT, "push", 2);
        due(64, "count", 4);
        on("letters 4;");
        due(1, "push", 3);
        due(ARGUMENT, "push", 4);
        promise(9);
        due(STATE, "pop");
        tell("aab");
        due(1, "pop");
        due(0, "pop");
        is("a");
        due(0, "pop");
        due(STATE, "pop");
        due(4, "count", 5);
    }

    private void acts() {
        promise(10);
        due(-1, "undo");
        due(1, "push", 0);
        due(2, "push", 1);
        due(1, "pop");
        due(2, "undo");
        is("ab");
        due(1, "undo");
        is("a");
        due(0, "undo");
        is("");
        due(-1, "undo");
        on("letters 2;limit upto 2 over 1;map m a ab b ba;");
        tell("b");
        due(2, "first", 2);
        due(1, "next");
        due(6, "nth", 2, 3);
        is("bb");
        due(4, "image", 0);
        due(-1, "fill", 0, 1, 3);
        is("baa");
        due(6, "count", 5);
        due(5, "undo");
        is("baba");
        due(4, "undo");
        is("bb");
        due(3, "undo");
        is("ab");
        due(2, "undo");
        is("aa");
        due(1, "undo");
        is("b");
        due(0, "undo");
        is("");
        // limits and patterns to avoid are no ACTS, calls that throw or find none are none
        due(2, "limit", 1, 2, 1);
        due(ARGUMENT, "push", 2);
        due(STATE, "pop");
        due(-1, "first", 4);
        due(0, "count", 5);
        due(-1, "undo");
        // ten are kept
        for (int n = 1; n <= 12; n++) {
            due(n, "push", n % 2);
        }
        due(10, "count", 5);
        for (int n = 9; n >= 0; n--) {
            due(n, "undo");
        }
        is("ba");
        due(-1, "undo");
        due(3, "push", 0);
        due(0, "undo");
        is("ba");
    }

    private void count() {
        promise(52);
        on("letters 3; limit under 7 over 4; map m a a b b c c; map n a b b c c a; pattern p xx; pattern q xyx;"
            + " pattern r z; avoid q;");
        long[] all = {3, 2, 3, 1, 0, 0, 7, 4, 1};
        for (int what = 0; what < all.length; what++) {
            due(all[what], "count", what);
        }
        due(-1, "count", 9);
        due(-1, "count", -1);
        due(-1, "count", Integer.MIN_VALUE);
        due(1, "limit", 2, 3, 2);
        due(2, "count", 8);
        due(3, "count", 6);
        due(2, "count", 7);
        due(2, "limit", 0, 3, 2);
        due(0, "count", 8);
        due(0, "count", 6);
        due(0, "count", 7);
        due(1, "push", 2);
        due(1, "count", 4);
        due(1, "count", 5);
    }
}
