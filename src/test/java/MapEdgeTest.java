import java.util.ArrayList;
import java.util.List;

/** Promises 27 to 35, 48 to 50 at their bounds: maps, their IMAGES and POWERS. */
public final class MapEdgeTest extends Due {
    private static final int LEAST = Integer.MIN_VALUE, MOST = Integer.MAX_VALUE;
    private static final String THUE = "letters 2;limit upto 2 over 1;map t a ab b ba;";
    // IMAGES of 6, 1, 2 LETTERS
    private static final String UNLIKE = "letters 3;map m a abcabc b b c ca;";
    private static final String SAME4 = "map m a a b b c c d d;";

    public static void main(String[] args) {
        MapEdgeTest test = new MapEdgeTest();
        test.image();
        test.imaged();
        test.length();
        test.power();
        test.often();
        test.keeps();
        test.keepsTries();
        test.breaks();
        test.grows();
        test.uniform();
        test.fill();
        test.sources();
        test.code();
        test.codesOfTwo();
        test.readAgain();
        test.close("MapEdgeTest");
    }

    private void image() {
        edge(27, "of the empty word: an ACT");
        on(THUE);
        due(0, "image", 0);
        due(1, "count", 5);
        edge(27, "64 LETTERS");
        on(THUE);
        tell("ab".repeat(16));
        due(64, "image", 0);
        is("abba".repeat(16));
        due(2, "count", 5);
        due(STATE, "image", 0);
        is("abba".repeat(16));
        tell("a".repeat(31));
        due(62, "image", 0);
        edge(27, "65 LETTERS, 66");
        on(UNLIKE);
        tell("b".repeat(64));
        due(64, "image", 0);
        tell("aaaaaaaaaac" + "b".repeat(2));
        due(64, "image", 0);
        tell("aaaaaaaaaac" + "b".repeat(3));
        due(STATE, "image", 0);
        tell("a".repeat(11));
        due(STATE, "image", 0);
        is("a".repeat(11));
        due(6, "count", 5);
        edge(27, "384 LETTERS");
        on("letters 2;map m a bbbbbb b a;map n a a b b;map o a b b a;map p a aa b a;");
        tell("a".repeat(64));
        due(STATE, "image", 0);
        due(64, "image", 1);
        due(64, "image", 2);
        is("b".repeat(64));
        due(64, "image", 3);
        is("a".repeat(64));
        due(STATE, "image", 3);
    }

    private void imaged() {
        edge(28, "k 0 on; NONE: how many");
        on(UNLIKE);
        int[] sizes = {6, 1, 2};
        String[] images = {"abcabc", "b", "ca"};
        for (int letter = 0; letter < 3; letter++) {
            due(sizes[letter], "imaged", 0, letter, -1);
            for (int k = 0; k < sizes[letter]; k++) {
                due(images[letter].charAt(k) - 'a', "imaged", 0, letter, k);
            }
            for (int k : new int[] {sizes[letter], sizes[letter] + 1, 6, 7, MOST, -2, LEAST}) {
                due(-1, "imaged", 0, letter, k);
            }
        }
        edge(28, "the last of 4 maps, the last of 4 LETTERS");
        on("letters 4;" + SAME4 + "map n a b b b c b d b;map o a a b a c a d a;map p a a b b c c d dcbadc;");
        due(6, "imaged", 3, 3, -1);
        due(2, "imaged", 3, 3, 5);
        due(1, "imaged", 1, 3, 0);
    }

    private void length() {
        edge(29, "k 0 to 12");
        on("letters 2;map m a abbbba b a;map n a aaaaaa b b;");
        due(1, "length", 1, 0, 0);
        due(6, "length", 1, 0, 1);
        due(362797056L, "length", 1, 0, 11);
        due(2176782336L, "length", 1, 0, 12);
        due(1, "length", 1, 1, 12);
        due(1, "length", 0, 1, 0);
        due(1, "length", 0, 1, 1);
        due(6, "length", 0, 1, 2);
        due(16, "length", 0, 0, 2);
        edge(29, "each LETTER of its own");
        on("letters 4;map m a ab b bbbbbb c aaaaaa d dddddd;");
        due(2176782336L, "length", 0, 1, 12);
        due(2176782336L, "length", 0, 3, 12);
        // 1 a, and b of all POWERS below
        due(435356468L, "length", 0, 0, 12);
        due(6L * 72559412L, "length", 0, 2, 12);
    }

    private void power() {
        edge(30, "k 0: that LETTER");
        on("letters 4;map m a bcda b a c a d ddddda;");
        for (int letter = 0; letter < 4; letter++) {
            due(letter, "power", 0, letter, 0, 0);
            due(-1, "power", 0, letter, 0, 1);
            due(-1, "power", 0, letter, 0, -1);
        }
        edge(30, "the first place, the last one, one behind, none");
        on("letters 2;map m a aaaaaa b abbbbb;");
        due(0, "power", 0, 1, 1, 0);
        due(1, "power", 0, 1, 1, 1);
        due(1, "power", 0, 1, 1, 5);
        due(-1, "power", 0, 1, 1, 6);
        due(0, "power", 0, 1, 12, 0);
        // a POWER of 11 of a, then of b: 6 to the 11th each; there again a of all places but
        due(0, "power", 0, 1, 12, 362797055L);
        due(0, "power", 0, 1, 12, 362797056L);
        due(1, "power", 0, 1, 12, 2176782335L);
        due(-1, "power", 0, 1, 12, 2176782336L);
        due(-1, "power", 0, 1, 12, 4294967296L);
        due(-1, "power", 0, 1, 12, Long.MAX_VALUE);
        due(-1, "power", 0, 1, 12, Long.MIN_VALUE);
        due(-1, "power", 0, 1, 12, -1);
        due(-1, "power", 0, 1, 12, -4294967296L);
        edge(30, "IMAGES of unlike sizes");
        on(UNLIKE);
        String power = "abcabc" + "b" + "ca" + "abcabc" + "b" + "ca";
        for (int place = 0; place < power.length(); place++) {
            due(power.charAt(place) - 'a', "power", 0, 0, 2, place);
        }
        due(-1, "power", 0, 0, 2, power.length());
    }

    private void often() {
        edge(31, "k 0 to 12");
        on("letters 2;map m a aaaaaa b abbbbb;");
        due(1, "often", 0, 0, 0, 0);
        due(0, "often", 0, 0, 0, 1);
        due(0, "often", 0, 1, 0, 0);
        due(1, "often", 0, 1, 1, 0);
        due(5, "often", 0, 1, 1, 1);
        due(244140625L, "often", 0, 1, 12, 1);
        due(2176782336L - 244140625L, "often", 0, 1, 12, 0);
        due(0, "often", 0, 0, 12, 1);
        due(2176782336L, "often", 0, 0, 12, 0);
        edge(31, "the last LETTER of 4");
        on("letters 4;map m a dddddd b b c c d dddddd;");
        due(2176782336L, "often", 0, 0, 12, 3);
        due(0, "often", 0, 0, 12, 0);
        due(0, "often", 0, 1, 12, 3);
    }

    private void keepsUpTo(int map, int n, int due) {
        due(due, "keeps", map, n);
    }

    private void keeps() {
        edge(32, "n 1 to 6, up to the word that BREAKS");
        on("letters 2;limit upto 2 over 1;map f a ab b a;map g a aaa b b;map h a ab b ba;");
        keepsUpTo(0, 1, 1);
        keepsUpTo(0, 2, 1);
        keepsUpTo(0, 3, 0);
        keepsUpTo(0, 6, 0);
        keepsUpTo(1, 1, 0);
        keepsUpTo(2, 6, 1);
        edge(32, "6 LETTERS");
        on("letters 2;limit upto 6 over 1;map m a a b a;map n a b b b;");
        keepsUpTo(0, 6, 1);
        due(2, "limit", 2, 5, 1);
        keepsUpTo(0, 5, 1);
        keepsUpTo(0, 6, 0);
        edge(32, "no FREE words at all");
        on("letters 4;limit under 1 over 1;" + SAME4);
        keepsUpTo(0, 6, 1);
        edge(32, "IMAGES of 36 LETTERS");
        on("letters 2;limit upto 35 over 1;map m a aaaaaa b abbbbb;");
        keepsUpTo(0, 5, 1);
        keepsUpTo(0, 6, 0);
        due(111111, "breaks", 0, 6);
        due(2, "limit", 2, 36, 1);
        keepsUpTo(0, 6, 1);
    }

    private void keepsTries() {
        String most = "letters 4;pattern p yyyz;avoid p;pattern q yyxz;avoid q;";
        edge(32, "4968 TRIES of all lengths together");
        on(most + SAME4);
        keepsUpTo(0, 6, 1);
        due(-1, "breaks", 0, 6);
        edge(32, "5016 TRIES: CUT");
        on("letters 4;limit under 26 over 8;pattern p zyzy;avoid p;pattern q xzxx;avoid q;pattern r xzzx;avoid r;"
            + "pattern s yyy;avoid s;" + SAME4);
        keepsUpTo(0, 6, -2);
        keepsUpTo(0, 5, 1);
        due(-2, "breaks", 0, 6);
        due(-1, "breaks", 0, 5);
        edge(33, "4995 TRIES up to the word that BREAKS");
        on("letters 4;limit under 5 over 1;map m a a b dc c bc d db;");
        due(322224, "breaks", 0, 6);
        keepsUpTo(0, 6, 0);
        edge(33, "5000 TRIES up to the word that BREAKS");
        on("letters 4;limit under 7 over 1;map m a bdc b b c cbb d d;");
        due(322221, "breaks", 0, 6);
        keepsUpTo(0, 6, 0);
        edge(33, "5001 TRIES up to the word that would, by another limit: CUT");
        on("letters 4;limit upto 17 over 3;map m a a b b c db d d;");
        due(-2, "breaks", 0, 6);
        keepsUpTo(0, 6, -2);
        edge(33, "5001 TRIES up to the word that would: CUT");
        on("letters 4;limit under 17 over 3;map m a a b b c cb d d;");
        due(-2, "breaks", 0, 6);
        keepsUpTo(0, 6, -2);
        edge(33, "a word that BREAKS sooner, though more TRIES would be needed for all");
        on("letters 4;limit under 17 over 3;map m a a b b c cc d d;");
        due(333, "breaks", 0, 6);
        keepsUpTo(0, 6, 0);
        keepsUpTo(0, 2, 1);
        is("");
        due(0, "count", 5);
    }

    private void breaks() {
        edge(33, "1 LETTER, 6 LETTERS");
        on("letters 2;limit upto 5 over 1;map m a b b bbbbbb;map n a a b a;map o a b b a;");
        due(2, "breaks", 0, 1);
        due(2, "breaks", 0, 6);
        due(-1, "breaks", 1, 5);
        // aaaaaa is not FREE
        due(111112, "breaks", 1, 6);
        due(-1, "breaks", 2, 6);
        edge(33, "the first one, by lengths, then in order");
        on("letters 4;limit under 2 over 1;map m a abcd b b c c d d;map n a a b c c c d d;");
        // abcdd
        due(14, "breaks", 0, 2);
        due(23, "breaks", 1, 2);
        edge(33, "by PATTERNS to avoid");
        on("letters 4;pattern p xyx;avoid p;map m a ab b b c ca d d;");
        // abab
        due(11, "breaks", 0, 2);
        due(-1, "breaks", 0, 1);
        due(0, "keeps", 0, 2);
    }

    private void grows() {
        edge(34, "begins with it and has more LETTERS");
        on("letters 4;map m a aa b b c cdabcd d ad;map n a ab b bb c cc d da;map o a a b b c c d d;"
            + "map p a bbbbbb b a c a d a;");
        due(5, "grows", 0);
        due(15, "grows", 1);
        due(0, "grows", 2);
        due(0, "grows", 3);
    }

    private void uniform() {
        edge(35, "1 to 6 LETTERS each");
        for (int n = 1; n <= 6; n++) {
            on("letters 2;map m a " + "abbabb".substring(0, n) + " b " + "aaabbb".substring(0, n) + ";");
            due(n, "uniform", 0);
        }
        edge(35, "NONE: they have not; the last one only");
        on("letters 4;map m a ab b ba c cd d d;map n a a b ba c cd d dc;map o a ab b a c b d cc;");
        due(-1, "uniform", 0);
        due(-1, "uniform", 1);
        due(-1, "uniform", 2);
    }

    private void fill() {
        edge(48, "n 1 to 64");
        on(THUE);
        due(-1, "fill", 0, 1, 1);
        is("b");
        due(-1, "fill", 0, 0, 2);
        is("ab");
        due(-1, "fill", 0, 0, 63);
        due(63, "count", 4);
        due(-1, "fill", 0, 0, 64);
        due(64, "count", 4);
        for (int place = 0; place < 64; place++) {
            due(Integer.bitCount(place) % 2, "letter", place);
        }
        due(4, "count", 5);
        due(3, "undo");
        due(63, "count", 4);
        edge(48, "ends() of it: the first place, the last one");
        on("letters 2;limit upto 63 over 1;map m a aa b b;");
        due(-1, "fill", 0, 0, 63);
        due(63, "fill", 0, 0, 64);
        due(63, "ends");
        due(2, "limit", 1, 1, 1);
        due(0, "fill", 0, 0, 64);
        due(1, "limit", 1, 2, 1);
        due(-1, "fill", 0, 0, 1);
        due(1, "fill", 0, 0, 2);
        edge(48, "it does not GROW from it: n and the LETTER may be right");
        on("letters 3;map m a ab b b c ac;");
        due(-1, "fill", 0, 0, 3);
        is("abb");
        due(STATE, "fill", 0, 1, 1);
        due(STATE, "fill", 0, 2, 1);
        is("abb");
        due(1, "count", 5);
        edge(48, "one LETTER more each time");
        on("letters 3;map m a abc b c c b;");
        due(-1, "fill", 0, 0, 9);
        is("abccbbccb");
    }

    private void sources() {
        edge(49, "the empty one as that of the empty one");
        on("letters 2;map m a aaaaaa b bb;");
        due(1, "sources", 0);
        edge(49, "none, one");
        on("letters 2;map m a aaaaaa b bb;");
        tell("b");
        due(0, "sources", 0);
        tell("bb");
        due(1, "sources", 0);
        tell("aaaaa");
        due(0, "sources", 0);
        tell("aaaaaabb");
        due(1, "sources", 0);
        tell("aaaaaab");
        due(0, "sources", 0);
        edge(49, "a long that goes round");
        on("letters 2;map m a a b a;");
        tell("a".repeat(62));
        due(1L << 62, "sources", 0);
        tell("a".repeat(63));
        due(Long.MIN_VALUE, "sources", 0);
        tell("a".repeat(64));
        due(0, "sources", 0);
        on("letters 3;map m a a b a c a;");
        tell("a".repeat(39));
        due(4052555153018976267L, "sources", 0);
        tell("a".repeat(40));
        due(-6289078614652622815L, "sources", 0);
        long all = 1;
        for (int n = 0; n < 64; n++) {
            all *= 3;
        }
        tell("a".repeat(64));
        due(all, "sources", 0);
        edge(49, "64 LETTERS, of one word");
        on("letters 2;map m a ab b ba;");
        tell("abba".repeat(16));
        due(1, "sources", 0);
        tell("abba".repeat(15) + "abb");
        due(0, "sources", 0);
        tell("abba".repeat(15) + "abbb");
        due(0, "sources", 0);
    }

    private void isCode(boolean code, String images) {
        String[] words = images.split(" ");
        StringBuilder text = new StringBuilder("letters " + words.length + ";map m");
        for (int i = 0; i < words.length; i++) {
            text.append(' ').append("abcd".charAt(i)).append(' ').append(words[i]);
        }
        on(text.append(';').toString());
        due(code, "code", 0);
    }

    private void code() {
        edge(50, "two LETTERS of one IMAGE");
        isCode(false, "a a");
        isCode(false, "abbabb abbabb");
        isCode(false, "a b c a");
        isCode(false, "a b bbb bbb");
        edge(50, "none the beginning of another one");
        isCode(true, "a b");
        isCode(true, "ab ba");
        isCode(true, "aaaaaa aaaaab");
        isCode(true, "d c b a");
        edge(50, "one the beginning of another one, and yet");
        isCode(true, "a ab");
        isCode(true, "a abbbbb");
        isCode(true, "a ab abb abbb");
        edge(50, "powers of one word");
        isCode(false, "aa aaa");
        isCode(false, "aaaaa aaaaaa");
        isCode(false, "ab ababab");
        edge(50, "by any two of 4 LETTERS");
        // ab bab, abb ab
        isCode(false, "ab abb bab babbb");
        isCode(false, "babbb bab ab abb");
        isCode(false, "ab babbb abb bab");
        isCode(true, "ab abb babbb");
        edge(50, "a way of several steps");
        isCode(false, "ab abb bab");
        isCode(false, "ab abba baab");
        // ab bab ab, abba bab
        isCode(false, "ab abba bab");
        isCode(true, "aab aabb abb");
        isCode(true, "aab aabb baa abaa");
        edge(50, "an IMAGE within what is over of another one");
        // ab b ab
        isCode(false, "ab abbab b");
        isCode(false, "abbab b ab");
        isCode(false, "abccab ab c");
        isCode(true, "abccab ab ccb");
        isCode(false, "ab abcdab cd d");
        isCode(true, "ab abcdac cd d");
        edge(50, "what is over of 6 LETTERS: 1 to 5 of them, of each LETTER");
        for (int size = 1; size <= 5; size++) {
            String some = "abbbbb".substring(0, size);
            String over = "abbbbb".substring(size);
            isCode(true, "abbbbb " + some + " c");
            isCode(true, some + " abbbbb c");
            isCode(true, "c " + some + " abbbbb");
            isCode(true, "c d " + some + " abbbbb");
            isCode(true, "c d abbbbb " + some);
            isCode(false, "abbbbb " + some + " " + over);
            isCode(false, some + " c abbbbb " + over);
            isCode(false, "c " + over + " " + some + " abbbbb");
        }
    }

    /** Two words are a CODE just if they, one behind the other, are not alike both ways round. */
    private void codesOfTwo() {
        List<String> words = new ArrayList<>(List.of("a", "b"));
        for (int i = 0; words.get(i).length() < 6; i++) {
            words.add(words.get(i) + "a");
            words.add(words.get(i) + "b");
        }
        StringBuilder text = new StringBuilder();
        List<Boolean> codes = new ArrayList<>();
        for (int i = 0; i < words.size(); i++) {
            for (int j = 0; j < words.size(); j++) {
                String one = words.get(i);
                String other = words.get(j);
                text.append("map ").append((char) ('m' + codes.size())).append(" a ").append(one).append(" b ")
                    .append(other).append(';');
                codes.add(!(one + other).equals(other + one));
                if (codes.size() == 4) {
                    areCodes("letters 2;" + text, codes);
                    text.setLength(0);
                    codes.clear();
                }
            }
        }
    }

    private void areCodes(String text, List<Boolean> codes) {
        edge(50, "of " + text);
        on(text);
        for (int map = 0; map < codes.size(); map++) {
            due(codes.get(map), "code", map);
        }
    }

    /** Of a text that comes in place of one with more of all, everything is as of one that came first. */
    private void readAgain() {
        String rich = "letters 4;limit under 9 over 8;map m a abcd b bb c cabab d ab;map n a ab b ba c caa d dabba;"
            + "map o a a b a c a d b;map p a bcd b cd c d d a;pattern q xyzxyz;pattern r xx;avoid q;avoid r;";
        String[] poor = {"letters 2;map m a aab b a;pattern q xyyxyz;", "letters 2;map m a abb b a;map n a aa b ab;map o a ab b aba;",
            "letters 3;map m a b b a c a;map n a aa b ab c bb;map o a aab b baa c cca;",
            "letters 2;map m a b b a;map n a aab b baa;map o a ab b b;"};
        for (String text : poor) {
            edge(4, "in place of all: " + text);
            on(text);
            List<String> first = ofAll();
            on(rich);
            for (String next : new String[] {rich, text, text}) {
                put(next);
                due(next.charAt(8) - '0', "read");
            }
            isAs(first, ofAll(), "read");
        }
    }

    private List<String> ofAll() {
        List<String> answers = new ArrayList<>();
        tell("ababbaab");
        for (String call : new String[] {"free", "goes", "ahead", "further", "longest", "rank"}) {
            answers.add(ask(call));
        }
        for (int what = 0; what <= 8; what++) {
            answers.add(ask("count", what));
            answers.add(ask("many", what));
        }
        for (int map = 0; map < 4; map++) {
            for (String call : new String[] {"grows", "uniform", "code", "sources"}) {
                answers.add(ask(call, map));
            }
            for (int letter = 0; letter < 4; letter++) {
                answers.add(ask("imaged", map, letter, -1));
                answers.add(ask("length", map, letter, 12));
                answers.add(ask("often", map, 1, 3, letter));
                answers.add(ask("power", map, letter, 2, 2));
            }
            answers.add(ask("keeps", map, 3));
            answers.add(ask("cannot", map));
            answers.add(ask("met", map, 0));
            answers.add(ask("pattern", map, 2));
        }
        return answers;
    }
}
