import java.util.List;

/** Each exception that a promise names, the one told first where several could be thrown, and that nothing is changed. */
public final class RefusedTest extends Due {
    private static final int LEAST = Integer.MIN_VALUE, MOST = Integer.MAX_VALUE;
    private static final String NEW = "";
    private static final String ALL =
        "letters 3;limit upto 7 over 4;map m a abc b ac c b;map n a b b c c a;pattern p xyx;pattern q zz;avoid q;";
    private static final int[] NO_MAPS = {2, 3, 4, -1, LEAST, MOST};
    private static final int[] NO_LETTERS = {3, 4, -1, LEAST, MOST};

    public static void main(String[] args) {
        RefusedTest test = new RefusedTest();
        test.texts();
        test.words();
        test.pushAndPop();
        test.whats();
        test.numbers();
        test.tooLong();
        test.limits();
        test.places();
        test.mapsOnly();
        test.patternsOnly();
        test.imaged();
        test.powers();
        test.keepsAndBreaks();
        test.fill();
        test.patternAndWhat();
        test.close("RefusedTest");
    }

    private void texts() {
        edge(4, "a wrong text changes the TAPE and fault() alone");
        String[] texts = {"", "letters 5;", "letters 2;letters 2;", "letters 4;map z a a b b c c d d;limit upto 1 over 1",
            "letters 4;pattern z xyz;avoid z;avoid z;"};
        int[] faults = {0, 8, 10, 51, 38};
        for (int i = 0; i < texts.length; i++) {
            isReadInVain("read", texts[i], faults[i]);
        }
    }

    private void words() {
        edge(5, "a wrong word changes the TAPE and fault() alone");
        String[] words = {"d", " abcd", "ab ab", "a".repeat(65), "letters 2;"};
        int[] faults = {0, 4, 3, 64, 0};
        for (int i = 0; i < words.length; i++) {
            isReadInVain("word", words[i], faults[i]);
        }
    }

    private void isReadInVain(String call, String text, int fault) {
        on(ALL);
        tell("cab");
        put("");
        List<String> before = seen();
        put(text);
        due(ARGUMENT, call);
        due(fault, "fault");
        isTaped(0);
        due(0, "word");
        due(1, "undo");
        put("");
        isAs(before, seen(), call);
        due(0, "undo");
        is("");
    }

    private void pushAndPop() {
        edge(8, "a LETTER that is none");
        for (int letter : new int[] {2, 3, -1, LEAST, MOST}) {
            refuses(NEW, "ab", ARGUMENT, "push", letter);
        }
        for (int letter : NO_LETTERS) {
            refuses(ALL, "", ARGUMENT, "push", letter);
        }
        refuses("letters 4;", "d", ARGUMENT, "push", 4);
        edge(8, "there are 64");
        refuses(NEW, "ab".repeat(32), STATE, "push", 0);
        edge(8, "a LETTER that is none, and there are 64");
        refuses(NEW, "ab".repeat(32), ARGUMENT, "push", 2);
        refuses(NEW, "ab".repeat(32), ARGUMENT, "push", -1);
        edge(9, "there is none");
        refuses(NEW, "", STATE, "pop");
    }

    private void whats() {
        for (int what : new int[] {3, 4, -1, -2, LEAST, MOST}) {
            edge(13, "another what");
            refuses(NEW, "", ELEMENT, "greatest", what);
            refuses(NEW, "abba", ELEMENT, "greatest", what);
            edge(16, "another what, of the k-th, of none, of all");
            refuses(NEW, "abba", ELEMENT, "run", 0, what);
            refuses(NEW, "abba", ELEMENT, "run", 5, what);
            refuses(NEW, "", ELEMENT, "run", -1, what);
        }
    }

    private void numbers() {
        String[] calls = {"factors", "first", "many", "growth", "stuck"};
        int[] promises = {17, 22, 24, 26, 39};
        int[] least = {1, 1, 0, 0, 0};
        int[] most = {64, 40, 40, 39, 40};
        for (int i = 0; i < calls.length; i++) {
            edge(promises[i], "n is none");
            for (int n : new int[] {least[i] - 1, most[i] + 1, LEAST, MOST}) {
                refuses(NEW, "ab", ARGUMENT, calls[i], n);
                refuses(ALL, "", ARGUMENT, calls[i], n);
            }
        }
        edge(41, "n, k is none");
        for (int n : new int[] {0, 41, -1, LEAST, MOST}) {
            refuses(NEW, "ab", ARGUMENT, "nth", n, 0);
            refuses(NEW, "ab", ARGUMENT, "nth", n, -1);
        }
        refuses(NEW, "ab", ARGUMENT, "nth", 1, -1);
        refuses(NEW, "ab", ARGUMENT, "nth", 40, -1);
        refuses(NEW, "ab", ARGUMENT, "nth", 3, LEAST);
    }

    private void tooLong() {
        edge(23, "more than 40 LETTERS");
        refuses(NEW, "a".repeat(41), STATE, "next");
        refuses(NEW, "a".repeat(64), STATE, "next");
        edge(40, "more than 40 LETTERS");
        refuses(NEW, "a".repeat(41), STATE, "rank");
        refuses(NEW, "a".repeat(64), STATE, "rank");
        edge(27, "it would have more than 64");
        refuses("letters 2;map m a aaaaa b b;", "a".repeat(13), STATE, "image", 0);
        refuses("letters 2;map m a aaaaa b b;", "a".repeat(64), STATE, "image", 0);
        refuses("letters 2;map m a aaaaa b b;", "bb" + "a".repeat(12) + "bbb", STATE, "image", 0);
        edge(27, "no such map, and it would be too long");
        refuses("letters 2;map m a aaaaa b b;", "a".repeat(64), INDEX, "image", 1);
    }

    private void limits() {
        edge(43, "kind, N, N: each of them");
        int[][] wrong = {{-1, 1, 1}, {3, 1, 1}, {LEAST, 1, 1}, {MOST, 1, 1}, {1, 0, 1}, {1, 100, 1}, {2, -1, 1}, {2, 1, 0},
            {1, 1, 10}, {2, 99, -1}, {0, 0, 1}, {0, 100, 1}, {0, 1, 0}, {0, 1, 10}, {0, 0, 0},
            {1, LEAST, LEAST}, {2, MOST, MOST}};
        for (int[] row : wrong) {
            refuses(NEW, "ab", ARGUMENT, "limit", row[0], row[1], row[2]);
            refuses(ALL, "ab", ARGUMENT, "limit", row[0], row[1], row[2]);
        }
    }

    private void places() {
        edge(47, "1 on, less than LETTERS of THE WORD");
        for (int place : new int[] {0, 1, -1, LEAST, MOST}) {
            refuses(NEW, "", ARGUMENT, "local", place);
            refuses(NEW, "b", ARGUMENT, "local", place);
        }
        for (int place : new int[] {0, 2, 3, -1, LEAST, MOST}) {
            refuses(NEW, "ab", ARGUMENT, "local", place);
        }
        refuses(NEW, "ab".repeat(32), ARGUMENT, "local", 0);
        refuses(NEW, "ab".repeat(32), ARGUMENT, "local", 64);
    }

    private void mapsOnly() {
        String[] calls = {"image", "grows", "uniform", "sources", "code"};
        int[] promises = {27, 34, 35, 49, 50};
        for (int i = 0; i < calls.length; i++) {
            edge(promises[i], "no such map");
            refuses(NEW, "ab", INDEX, calls[i], 0);
            for (int map : NO_MAPS) {
                refuses(ALL, "ab", INDEX, calls[i], map);
            }
        }
    }

    private void patternsOnly() {
        edge(36, "no such PATTERN");
        refuses(NEW, "ab", INDEX, "cannot", 0);
        for (int pattern : NO_MAPS) {
            edge(36, "no such PATTERN");
            refuses(ALL, "ab", INDEX, "cannot", pattern);
            edge(37, "no such PATTERN");
            refuses(ALL, "ab", INDEX, "loose", pattern, -1);
            refuses(ALL, "ab", INDEX, "loose", pattern, 0);
            edge(44, "no such PATTERN");
            refuses(ALL, "ab", INDEX, "avoid", pattern, 1);
            refuses(ALL, "ab", INDEX, "avoid", pattern, 0);
        }
        refuses(NEW, "ab", INDEX, "avoid", 0, 1);
        refuses(NEW, "ab", INDEX, "loose", 0, 0);
    }

    private void imaged() {
        edge(28, "no such map, be the LETTER none or not");
        for (int map : NO_MAPS) {
            refuses(ALL, "ab", INDEX, "imaged", map, 0, 0);
            refuses(ALL, "ab", INDEX, "imaged", map, 3, 0);
        }
        edge(28, "the LETTER is none");
        for (int letter : NO_LETTERS) {
            refuses(ALL, "ab", ARGUMENT, "imaged", 1, letter, 0);
            refuses(ALL, "ab", ARGUMENT, "imaged", 1, letter, -1);
        }
    }

    private void powers() {
        for (int map : NO_MAPS) {
            edge(29, "no such map, be the others none or not");
            refuses(ALL, "ab", INDEX, "length", map, 0, 0);
            refuses(ALL, "ab", INDEX, "length", map, 3, 13);
            edge(30, "no such map, be the others none or not");
            refuses(ALL, "ab", INDEX, "power", map, 0, 0, 0);
            refuses(ALL, "ab", INDEX, "power", map, 3, 13, -1);
            edge(31, "no such map, be the others none or not");
            refuses(ALL, "ab", INDEX, "often", map, 0, 0, 0);
            refuses(ALL, "ab", INDEX, "often", map, 3, 13, 3);
        }
        for (int letter : NO_LETTERS) {
            edge(29, "the LETTER is none");
            refuses(ALL, "ab", ARGUMENT, "length", 1, letter, 12);
            edge(30, "the LETTER is none");
            refuses(ALL, "ab", ARGUMENT, "power", 1, letter, 0, 0);
            edge(31, "one of the LETTERS is none");
            refuses(ALL, "ab", ARGUMENT, "often", 1, letter, 0, 0);
            refuses(ALL, "ab", ARGUMENT, "often", 1, 0, 0, letter);
        }
        for (int k : new int[] {13, 14, -1, LEAST, MOST}) {
            edge(29, "k is none");
            refuses(ALL, "ab", ARGUMENT, "length", 0, 2, k);
            edge(30, "k is none, be there such a place or not");
            refuses(ALL, "ab", ARGUMENT, "power", 0, 2, k, 0);
            refuses(ALL, "ab", ARGUMENT, "power", 0, 2, k, -1);
            edge(31, "k is none");
            refuses(ALL, "ab", ARGUMENT, "often", 0, 2, k, 2);
        }
    }

    private void keepsAndBreaks() {
        for (int map : NO_MAPS) {
            for (int n : new int[] {1, 0, 7}) {
                edge(32, "no such map, be n none or not");
                refuses(ALL, "ab", INDEX, "keeps", map, n);
                edge(33, "no such map, be n none or not");
                refuses(ALL, "ab", INDEX, "breaks", map, n);
            }
        }
        for (int n : new int[] {0, 7, -1, LEAST, MOST}) {
            edge(32, "n is none");
            refuses(ALL, "ab", ARGUMENT, "keeps", 1, n);
            edge(33, "n is none");
            refuses(ALL, "ab", ARGUMENT, "breaks", 1, n);
        }
    }

    private void fill() {
        edge(48, "no such map, be the others none or not");
        for (int map : NO_MAPS) {
            refuses(ALL, "ab", INDEX, "fill", map, 0, 1);
            refuses(ALL, "ab", INDEX, "fill", map, 3, 0);
        }
        edge(48, "the LETTER is none");
        for (int letter : NO_LETTERS) {
            refuses(ALL, "ab", ARGUMENT, "fill", 0, letter, 1);
        }
        edge(48, "n is none");
        for (int n : new int[] {0, 65, -1, LEAST, MOST}) {
            refuses(ALL, "ab", ARGUMENT, "fill", 0, 0, n);
        }
        edge(48, "it does not GROW from it");
        refuses(ALL, "ab", STATE, "fill", 0, 1, 1);
        refuses(ALL, "ab", STATE, "fill", 0, 2, 64);
        refuses(ALL, "ab", STATE, "fill", 1, 0, 1);
        edge(48, "n is none, and it does not GROW from it");
        refuses(ALL, "ab", ARGUMENT, "fill", 0, 1, 0);
        refuses(ALL, "ab", ARGUMENT, "fill", 1, 2, 65);
        refuses(ALL, "ab", ARGUMENT, "fill", 1, 3, 1);
    }

    private void patternAndWhat() {
        for (int pattern : NO_MAPS) {
            edge(19, "no such PATTERN, be what another one or not");
            refuses(ALL, "ab", INDEX, "met", pattern, 0);
            refuses(ALL, "ab", INDEX, "met", pattern, 4);
            edge(38, "no such PATTERN, be what another one or not");
            refuses(ALL, "ab", INDEX, "pattern", pattern, 0);
            refuses(ALL, "ab", INDEX, "pattern", pattern, 3);
            edge(51, "no such PATTERN, be what another one or not");
            refuses(ALL, "ab", INDEX, "whole", pattern, -1, 0);
            refuses(ALL, "ab", INDEX, "whole", pattern, 0, 3);
        }
        for (int what : new int[] {4, 5, -1, LEAST, MOST}) {
            edge(19, "another what, be it MET or not");
            refuses(ALL, "aba", ELEMENT, "met", 0, what);
            refuses(ALL, "", ELEMENT, "met", 0, what);
        }
        for (int what : new int[] {3, 4, -1, LEAST, MOST}) {
            edge(38, "another what");
            refuses(ALL, "ab", ELEMENT, "pattern", 0, what);
            edge(51, "another what, of the k-th, of none, of all");
            refuses(ALL, "aba", ELEMENT, "whole", 0, 0, what);
            refuses(ALL, "aba", ELEMENT, "whole", 0, 7, what);
            refuses(ALL, "aba", ELEMENT, "whole", 0, -1, what);
        }
        edge(19, "of a new object there is none");
        refuses(NEW, "ab", INDEX, "met", 0, 0);
        refuses(NEW, "ab", INDEX, "pattern", 0, 0);
        refuses(NEW, "ab", INDEX, "whole", 0, 0, 0);
    }
}
