/** Promises 1 to 10 and 52 at the bounds that the document names: the TAPE, what is read, THE WORD's end, ACTS. */
public final class TapeEdgeTest extends Due {
    private static final int LEAST = Integer.MIN_VALUE, MOST = Integer.MAX_VALUE;
    private static final String ALL = "letters 2;limit upto 2 over 1;map m a ab b ba;pattern p xxx;avoid p;";

    public static void main(String[] args) {
        TapeEdgeTest test = new TapeEdgeTest();
        test.aNewObject();
        test.feed();
        test.end();
        test.read();
        test.word();
        test.wordsBytes();
        test.fault();
        test.letter();
        test.push();
        test.pop();
        test.undoing();
        test.tenActs();
        test.eachAct();
        test.noActs();
        test.count();
        test.close("TapeEdgeTest");
    }

    private void aNewObject() {
        edge(1, "2 LETTERS, no limit, no maps, no PATTERNS, THE WORD empty, no ACTS");
        long[] all = {2, 0, 0, 0, 0, 0, 0, 0, 0};
        for (int what = 0; what < all.length; what++) {
            due(all[what], "count", what);
        }
        due(8, "many", 3);
        due(-1, "fault");
        due(-1, "undo");
        isTaped(0);
        is("");
    }

    private void feed() {
        edge(2, "not more than 400");
        put("a".repeat(360));
        due(380, "feed", 0, 0, 0, 0, 0);
        due(400, "feed", 0, 0, 0, 0, 0);
        due(-1, "feed", 0, 0, 0, 0, 0);
        isFull();
        edge(2, "380 bytes and twenty more");
        put("a".repeat(380));
        due(400, "feed", 0, 0, 0, 0, 0);
        isFull();
        edge(2, "381 bytes and twenty more: NONE, and none come");
        put("a".repeat(381));
        due(-1, "feed", 0, 0, 0, 0, 0);
        due(false, "end", 382);
        due(true, "end", 381);
        edge(2, "none come: those that are there stay");
        put(" ".repeat(380) + "ab");
        due(-1, "feed", 0x62626262, 0, 0, 0, 0);
        due(2, "word");
        is("ab");
        edge(2, "the first bytes of an empty TAPE");
        due(20, "feed", 0x61626162, 0x62616261, 0x61616262, 0x62626161, 0x61626261);
        due(20, "word");
        is("ababbabaaabbbbaaabba");
        edge(2, "bytes over 127");
        due(20, "feed", 0xe1616161, 0x61616161, 0x61616161, 0x61616161, 0x61616161);
        due(ARGUMENT, "word");
        due(0, "fault");
        due(20, "feed", 0x616161ff, 0x61616161, 0x61616161, 0x61616161, 0x61616161);
        due(ARGUMENT, "word");
        due(3, "fault");
        due(20, "feed", 0x61616161, LEAST, 0x61616161, 0x61616161, 0x61616161);
        due(ARGUMENT, "word");
        due(4, "fault");
    }

    private void isFull() {
        due(false, "end", 401);
        due(true, "end", 400);
        due(-1, "feed", 0, 0, 0, 0, 0);
    }

    private void end() {
        edge(3, "of an empty TAPE");
        for (int n : new int[] {-1, 1, 20, 400, LEAST, MOST}) {
            due(false, "end", n);
        }
        due(true, "end", 0);
        edge(3, "n below 0, of more than it has: nothing happens");
        put("abab");
        for (int n : new int[] {-1, -4, 5, 400, LEAST, MOST}) {
            due(false, "end", n);
        }
        due(4, "word");
        is("abab");
        edge(3, "all of it, one less, none");
        put("abab");
        due(true, "end", 4);
        due(true, "end", 3);
        due(false, "end", 4);
        due(3, "word");
        is("aba");
        put("abab");
        due(true, "end", 0);
        due(false, "end", 1);
        due(20, "feed", 0, 0, 0, 0, 0);
        edge(3, "of a TAPE of 400 bytes");
        put("a".repeat(400));
        due(false, "end", 401);
        due(true, "end", 400);
        due(true, "end", 399);
        due(false, "end", 400);
    }

    private void read() {
        edge(4, "an empty TAPE is a wrong text");
        due(ARGUMENT, "read");
        due(0, "fault");
        edge(4, "uses the TAPE up");
        put("letters 3;");
        due(3, "read");
        isTaped(0);
        due(20, "feed", 0, 0, 0, 0, 0);
        due(ARGUMENT, "read");
        isTaped(0);
        due(ARGUMENT, "read");
        due(0, "fault");
        edge(4, "a TAPE of 400 bytes");
        put("letters 4;" + " ".repeat(390));
        due(4, "read");
        isTaped(0);
        edge(4, "in place of all; THE WORD is empty, no ACTS");
        on(ALL);
        tell("ab");
        due(3, "push", 0);
        put("letters 4;");
        due(4, "read");
        long[] all = {4, 0, 0, 0, 0, 0, 0, 0, 0};
        for (int what = 0; what < all.length; what++) {
            due(all[what], "count", what);
        }
        due(INDEX, "grows", 0);
        due(INDEX, "cannot", 0);
        due(-1, "undo");
        due(64, "many", 3);
        edge(4, "of a wrong text nothing is taken, but the TAPE is used up");
        for (String wrong : new String[] {"", "letters 3;map z a b b c c a;pattern y xx;avoid y;limit under 3 over 2;!"}) {
            on(ALL);
            tell("ab");
            due(3, "push", 0);
            put(wrong);
            due(ARGUMENT, "read");
            due(Math.max(0, wrong.length() - 1), "fault");
            isTaped(0);
            long[] kept = {2, 1, 1, 1, 3, 2, 2, 1, 2};
            for (int what = 0; what < kept.length; what++) {
                due(kept[what], "count", what);
            }
            due(1, "imaged", 0, 1, 0);
            due(0, "imaged", 0, 1, 1);
            due(3, "pattern", 0, 0);
            is("aba");
            due(1, "undo");
            is("ab");
            due(0, "undo");
            is("");
        }
    }

    private void word() {
        edge(5, "none at all: it is empty");
        due(0, "word");
        is("");
        due(1, "count", 5);
        tell("ab");
        due(0, "word");
        is("");
        put(" \n\t ");
        due(0, "word");
        is("");
        put(" ".repeat(400));
        due(0, "word");
        is("");
        due(5, "count", 5);
        edge(5, "64 LETTERS, no more");
        tell("b".repeat(63));
        tell("a".repeat(64));
        due(64, "count", 4);
        due(-1, "fault");
        put("b".repeat(65));
        due(ARGUMENT, "word");
        due(64, "fault");
        due(64, "count", 4);
        due(0, "letter", 63);
        due(2, "count", 5);
        put("\n  " + "b".repeat(65) + " ");
        due(ARGUMENT, "word");
        due(67, "fault");
        edge(5, "a TAPE of 400 bytes");
        put(" ".repeat(168) + "ab".repeat(32) + "\n".repeat(168));
        due(64, "word");
        put(" ".repeat(399) + "b");
        due(1, "word");
        is("b");
        put("b" + "\t".repeat(399));
        due(1, "word");
        put("b".repeat(400));
        due(ARGUMENT, "word");
        due(64, "fault");
        edge(5, "another byte: the first one");
        String[] wrong = {"c", "  c", "aac", "a a", " abba \n b", "ab!", "!ab", "aAca", "a c!", "ab" + (char) 0};
        int[] places = {0, 2, 2, 2, 8, 2, 0, 1, 2, 2};
        for (int i = 0; i < wrong.length; i++) {
            put(wrong[i]);
            due(ARGUMENT, "word");
            due(places[i], "fault");
            isTaped(0);
        }
        is("");
        due(0, "count", 5);
        put(" ".repeat(399) + "c");
        due(ARGUMENT, "word");
        due(399, "fault");
        edge(5, "LETTERS of the text");
        for (int letters = 2; letters <= 4; letters++) {
            on("letters " + letters + ";");
            tell("abcd".substring(0, letters));
            put("abcde".substring(0, letters + 1));
            due(ARGUMENT, "word");
            due(letters, "fault");
            is("abcd".substring(0, letters));
        }
    }

    private void wordsBytes() {
        for (int sign = 0; sign < 256; sign++) {
            edge(5, "the byte " + sign);
            put("" + (char) sign);
            if (sign == 'a' || sign == 'b') {
                due(1, "word");
                due(sign - 'a', "letter", 0);
            } else if (sign == 9 || sign == 10 || sign == 32) {
                due(0, "word");
            } else {
                due(ARGUMENT, "word");
                due(0, "fault");
            }
        }
    }

    private void fault() {
        edge(6, "ahead of any");
        due(-1, "fault");
        edge(6, "of the latest one, other calls leave it");
        put("letters 5;");
        due(ARGUMENT, "read");
        due(8, "fault");
        due(20, "feed", 0, 0, 0, 0, 0);
        due(true, "end", 0);
        due(ARGUMENT, "push", 2);
        due(1, "push", 1);
        due(1, "first", 1);
        due(8, "fault");
        put("abc");
        due(ARGUMENT, "word");
        due(2, "fault");
        put("letters 3;;");
        due(ARGUMENT, "read");
        due(10, "fault");
        edge(6, "NONE without one");
        put("!");
        due(ARGUMENT, "word");
        due(0, "fault");
        put("letters 2;");
        due(2, "read");
        due(-1, "fault");
        put("!");
        due(ARGUMENT, "read");
        due(0, "fault");
        tell("ab");
        due(-1, "fault");
        put(" !");
        due(ARGUMENT, "word");
        due(1, "fault");
        due(0, "word");
        due(-1, "fault");
    }

    private void letter() {
        edge(7, "of the empty word");
        due(-1, "letter", 0);
        due(-1, "letter", -1);
        edge(7, "of 64 LETTERS");
        tell("b".repeat(63) + "a");
        due(1, "letter", 0);
        due(1, "letter", 62);
        due(0, "letter", 63);
        for (int place : new int[] {64, 65, -1, -64, LEAST, MOST}) {
            due(-1, "letter", place);
        }
        edge(7, "behind the last one, when it was longer");
        tell("bbb");
        due(1, "pop");
        due(1, "letter", 1);
        due(-1, "letter", 2);
    }

    private void push() {
        for (int letters = 2; letters <= 4; letters++) {
            edge(8, "the last LETTER of " + letters);
            on("letters " + letters + ";");
            due(1, "push", letters - 1);
            due(2, "push", 0);
            due(letters - 1, "letter", 0);
            due(0, "letter", 1);
        }
        edge(8, "63 LETTERS and one more");
        tell("a".repeat(63));
        due(64, "push", 1);
        due(1, "letter", 63);
        due(STATE, "push", 1);
        due(64, "count", 4);
    }

    private void pop() {
        edge(9, "the only one");
        tell("b");
        due(1, "pop");
        is("");
        due(STATE, "pop");
        edge(9, "of 64 LETTERS");
        tell("a".repeat(63) + "b");
        due(1, "pop");
        due(0, "pop");
        due(62, "count", 4);
    }

    private void undoing() {
        edge(10, "NONE: there was none");
        due(-1, "undo");
        due(1, "push", 0);
        due(0, "undo");
        due(-1, "undo");
        is("");
        edge(10, "to the word of 64 LETTERS, to the empty one");
        tell("ab".repeat(32));
        tell("");
        due(1, "undo");
        due(64, "count", 4);
        due(1, "letter", 63);
        due(0, "letter", 62);
        due(0, "undo");
        is("");
        edge(10, "what was undone does not come again");
        tell("a");
        tell("ab");
        due(1, "undo");
        due(2, "push", 0);
        due(1, "undo");
        is("a");
        due(0, "undo");
        due(-1, "undo");
        is("");
    }

    private void tenActs() {
        for (int acts = 9; acts <= 35; acts++) {
            edge(10, "the latest 10 of " + acts);
            for (int n = 1; n <= acts; n++) {
                due(n, "push", n % 2);
            }
            int kept = Math.min(10, acts);
            due(kept, "count", 5);
            for (int left = kept - 1; left >= 0; left--) {
                due(left, "undo");
                due(acts - kept + left, "count", 4);
            }
            due(-1, "undo");
            is("baba".repeat(9).substring(0, acts - kept));
        }
        edge(10, "10, some undone, some more");
        for (int n = 1; n <= 14; n++) {
            due(n, "push", 0);
        }
        for (int left = 9; left >= 6; left--) {
            due(left, "undo");
        }
        for (int n = 11; n <= 13; n++) {
            due(n, "push", 1);
        }
        due(9, "count", 5);
        due(14, "push", 1);
        due(15, "push", 1);
        due(10, "count", 5);
        for (int left = 9; left >= 0; left--) {
            due(left, "undo");
            due(5 + left, "count", 4);
        }
        is("aaaaa");
    }

    private void isUndone(String word) {
        due(1, "undo");
        is(word);
        due(0, "undo");
        is("");
    }

    private void eachAct() {
        edge(10, "a LETTER comes, goes, THE WORD is told");
        on(ALL);
        tell("bab");
        due(4, "push", 0);
        isUndone("bab");
        tell("bab");
        due(1, "pop");
        isUndone("bab");
        tell("bab");
        tell("bab");
        isUndone("bab");
        edge(10, "FIRST, NEXT, the k-th");
        on(ALL);
        tell("bab");
        due(4, "first", 3);
        isUndone("bab");
        tell("bab");
        due(1, "next");
        isUndone("bab");
        tell("bab");
        due(6, "nth", 3, 1);
        is("aba");
        isUndone("bab");
        edge(10, "an IMAGE, FILLED");
        on(ALL);
        tell("bab");
        due(6, "image", 0);
        is("baabba");
        isUndone("bab");
        tell("bab");
        due(-1, "fill", 0, 0, 3);
        isUndone("bab");
    }

    private void noActs() {
        edge(10, "what finds none, limits, patterns, questions are no ACTS");
        on("letters 2;limit under 2 over 1;map m a ab b ba;pattern p xxx;");
        tell("bab");
        due(-1, "first", 4);
        due(-1, "next");
        due(-1, "nth", 3, 2);
        due(1, "limit", 1, 2, 1);
        due(false, "avoid", 0, 1);
        due(true, "free");
        due(0, "further");
        due(3, "longest");
        due(2, "many", 3);
        due(1, "rank");
        due(2, "stuck", 3);
        due(1000, "growth", 2);
        is("bab");
        due(1, "count", 5);
    }

    private void count() {
        edge(52, "the least of all");
        on("letters 2;");
        long[] least = {2, 0, 0, 0, 0, 0, 0, 0, 0};
        for (int what = 0; what < least.length; what++) {
            due(least[what], "count", what);
        }
        edge(52, "the most of all");
        on("letters 4;limit upto 99 over 9;map a a a b b c c d d;map b a a b b c c d d;map c a a b b c c d d;"
            + "map d a a b b c c d d;pattern e x;pattern f x;pattern g x;pattern h x;avoid e;avoid f;avoid g;avoid h;");
        for (int n = 0; n < 9; n++) {
            tell("");
        }
        tell("abcd".repeat(16));
        long[] most = {4, 4, 4, 4, 64, 10, 99, 9, 2};
        for (int what = 0; what < most.length; what++) {
            due(most[what], "count", what);
        }
        edge(52, "another what");
        for (int what : new int[] {-1, 9, -2, 10, LEAST, MOST}) {
            due(-1, "count", what);
        }
        edge(52, "N over N, of limits told and of others");
        on("letters 2;limit under 1 over 9;");
        isLimit(1, 9, 1);
        due(1, "limit", 2, 99, 1);
        isLimit(99, 1, 2);
        due(2, "limit", 0, 99, 1);
        isLimit(0, 0, 0);
        due(0, "limit", 1, 1, 1);
        isLimit(1, 1, 1);
    }

    private void isLimit(int above, int below, int kind) {
        due(above, "count", 6);
        due(below, "count", 7);
        due(kind, "count", 8);
    }
}
