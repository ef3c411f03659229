import java.util.regex.Matcher;
import java.util.regex.Pattern;

/** Terms 1: each bound of a text, and each byte at which one can be wrong. */
public final class TextEdgeTest extends Due {
    private static final String[] KEYWORDS = {"letters", "limit", "under", "upto", "over", "map", "pattern", "avoid"};
    private static final String WHOLE =
        "letters 3;limit under 17 over 4;map m a ab b c c aabbcc;pattern long xyzxyz;avoid long;";
    // what must stand in WHOLE as it does there, from its first byte on
    private static final Pattern MUST = Pattern.compile("letters|limit|under|over|map|pattern|avoid|(?<=avoid )long");

    public static void main(String[] args) {
        TextEdgeTest test = new TextEdgeTest();
        test.bytes();
        test.blanks();
        test.lettersLine();
        test.linesInPlace();
        test.limits();
        test.names();
        test.namesAlike();
        test.mapsAndPatterns();
        test.images();
        test.patterns();
        test.avoided();
        test.wordsAndNumbers();
        test.cutOff();
        test.wrongByte();
        test.wrongLetter();
        test.close("TextEdgeTest");
    }

    private void right(String text) {
        on(text);
        due(-1, "fault");
    }

    private void fault(int place, String text) {
        fresh();
        put(text);
        due(ARGUMENT, "read");
        due(place, "fault");
        due(false, "end", 1);
    }

    private void bytes() {
        term(1, "at most 400 bytes");
        fault(0, "");
        String text = "letters 2;pattern p xyz;";
        right(text + " ".repeat(399 - text.length()));
        right(text + " ".repeat(400 - text.length()));
        right("letters 2;" + " ".repeat(376) + "pattern p xyz;");
        due(1, "count", 2);
        fault(399, "letters 2;" + " ".repeat(376) + "pattern p xyz");
        fault(400, "letters 2;" + " ".repeat(377) + "pattern p xyz");
        fault(399, " ".repeat(399));
        fault(400, " ".repeat(400));
        right(" ".repeat(390) + "letters 4;");
        fault(400, " ".repeat(391) + "letters 4");
        fault(399, " ".repeat(391) + "letters 5");
    }

    private void blanks() {
        term(1, "BLANKS are 9, 10, 32");
        for (int sign = 0; sign < 256; sign++) {
            boolean digit = sign >= '0' && sign <= '9';
            boolean small = sign >= 'a' && sign <= 'z';
            String text = "letters" + (char) sign + "2;";
            if (sign == 9 || sign == 10 || sign == 32) {
                right(text);
                right((char) sign + "letters 2" + (char) sign + ";" + (char) sign);
            } else if (!digit) {
                fault(small ? 0 : 7, text);
                fault(10, "letters 2;" + (char) sign);
            }
        }
        String all = " \n\t";
        right(all + "letters" + all + "2" + all + ";" + all + "limit" + all + "upto" + all + "2" + all + "over" + all + "1"
            + all + ";" + all + "map" + all + "m" + all + "a" + all + "b" + all + "b" + all + "a" + all + ";" + all);
        right("letters2;limit under2over1;map m a b b a;pattern p x;avoid p;");
        due(1, "count", 3);
        fault(10, "letters 2;limitunder 2 over 1;");
        fault(10, "letters 2;mapm a a b b;");
        fault(22, "letters 2;pattern p x;avoidp;");
        fault(21, "letters 2;map m a ab bb;");
        fault(16, "letters 2;map m aa b b;");
        fault(22, "letters 2;pattern p x x;");
    }

    private void lettersLine() {
        term(1, "LETTERS: 2 to 4");
        for (int n = 0; n <= 12; n++) {
            if (n >= 2 && n <= 4) {
                right("letters " + n + ";");
                due(n, "count", 0);
            } else {
                fault(8, "letters " + n + ";");
            }
        }
        fault(8, "letters 99;");
        fault(8, "letters 300;");
        term(1, "the first LINE is letters N");
        fault(0, ";");
        fault(0, "limit under 2 over 1;letters 2;");
        fault(0, "map m a a b b;letters 2;");
        fault(0, "pattern p x;letters 2;");
        fault(1, " avoid p;letters 2;");
        fault(0, "x;letters 2;");
        fault(7, "letters;");
        fault(7, "letters!");
        term(1, "letters once");
        fault(10, "letters 2;letters 2;");
        fault(24, "letters 2;pattern p xx; letters 3;");
    }

    private void linesInPlace() {
        term(1, "each LINE with its ;");
        fault(9, "letters 2");
        fault(9, "letters 2,");
        fault(9, "letters 2limit under 2 over 1;");
        fault(10, "letters 2;;");
        fault(31, "letters 2;limit under 2 over 1;;");
        fault(30, "letters 2;limit under 2 over 1");
        fault(24, "letters 2;map m a a b b;;");
        fault(23, "letters 2;map m a a b b.");
        fault(21, "letters 2;pattern p x,pattern q y;");
        fault(29, "letters 2;pattern p x;avoid p,limit under 2 over 1;");
        term(1, "no LINE but these");
        fault(10, "letters 2;limits under 2 over 1;");
        fault(10, "letters 2;under 2 over 1;");
        fault(10, "letters 2;a;");
        fault(10, "letters 2;2;");
        fault(10, "letters 2;Map m a a b b;");
    }

    private void limit(boolean right, int above, int below) {
        String text = "letters 2;limit upto " + above + " over ";
        if (right) {
            right(text + below + ";");
            due(above, "count", 6);
            due(below, "count", 7);
            due(2, "count", 8);
        } else {
            fault(above < 1 || above > 99 ? 21 : text.length(), text + below + ";");
        }
    }

    private void limits() {
        term(1, "limit: N (1 to 99) over N (1 to 9)");
        limit(false, 0, 1);
        limit(true, 1, 1);
        limit(true, 2, 9);
        limit(true, 98, 8);
        limit(true, 99, 9);
        limit(false, 100, 9);
        limit(false, 99, 0);
        limit(false, 99, 10);
        limit(false, 1, 99);
        limit(false, 0, 0);
        term(1, "limit under, upto");
        right("letters 2;limit under 3 over 2;");
        due(1, "count", 8);
        fault(16, "letters 2;limit over 3 over 2;");
        fault(16, "letters 2;limit 3 over 2;");
        fault(16, "letters 2;limit uptoo 3 over 2;");
        fault(21, "letters 2;limit upto over 2;");
        fault(23, "letters 2;limit upto 3 under 2;");
        fault(23, "letters 2;limit upto 3 2;");
        fault(28, "letters 2;limit upto 3 over x;");
        term(1, "limit once");
        fault(31, "letters 2;limit under 2 over 1;limit under 2 over 1;");
        fault(32, "letters 2;limit upto 2 over 1;  limit under 2 over 1;");
        fault(31, "letters 2;limit under 2 over 1;limit");
        right("letters 2;map m a a b b;pattern p x;avoid p;limit under 2 over 1;");
        due(1, "count", 8);
    }

    private void names() {
        term(1, "NAMES: 1 to 6 letters a to z");
        for (int sign = 0; sign < 256; sign++) {
            if (sign >= 'a' && sign <= 'z') {
                right("letters 2;map " + (char) sign + " a a b b;");
            } else if (sign != 9 && sign != 10 && sign != 32) {
                fault(14, "letters 2;map " + (char) sign + " a a b b;");
                fault(18, "letters 2;pattern " + (char) sign + " x;");
            }
        }
        right("letters 2;map abcdef a a b b;");
        right("letters 2;pattern uvwxyz x;");
        fault(14, "letters 2;map abcdefg a a b b;");
        fault(18, "letters 2;pattern tuvwxyz x;");
        fault(15, "letters 2;map mM a a b b;");
        term(1, "none of letters, limit, under, upto, over, map, pattern, avoid");
        for (String word : KEYWORDS) {
            fault(14, "letters 2;map " + word + " a a b b;");
            fault(18, "letters 2;pattern " + word + " x;");
            String shorter = word.substring(0, word.length() - 1);
            right("letters 2;map " + shorter + " a a b b;");
            right("letters 2;pattern " + shorter + " x;");
            if (word.length() < 6) {
                right("letters 2;map " + word + "s a a b b;");
                right("letters 2;pattern " + word + "s x;");
            }
        }
    }

    private void namesAlike() {
        term(1, "none named alike");
        fault(28, "letters 2;map m a a b b;map m a b b a;");
        fault(32, "letters 2;map m a a b b;pattern m x;");
        fault(26, "letters 2;pattern p x;map p a a b b;");
        fault(30, "letters 2;pattern p x;pattern p y;");
        fault(42, "letters 2;map m a a b b;map n a a b b;map m a a b b;");
        fault(64, "letters 2;pattern p x;pattern q x;pattern r x;map m a a b b;map q a a b b;");
        fault(58, "letters 2;map m a a b b;map n a a b b;pattern p x;pattern n x;");
        right("letters 2;map m a a b b;map mm a a b b;pattern mmm x;pattern n x;");
        right("letters 2;pattern ab x;pattern abc x;pattern b x;pattern a x;map bc a a b b;");
    }

    private void mapsAndPatterns() {
        String maps = "letters 2;map a a a b b;map b a aa b b;map c a aaa b b;map d a aaaa b b;";
        String patterns = "pattern e x;pattern f xx;pattern g xxx;pattern h xxxx;";
        term(1, "at most 4 maps, numbered as they come");
        right(maps);
        for (int map = 0; map < 4; map++) {
            due(map + 1, "imaged", map, 0, -1);
        }
        due(INDEX, "imaged", 4, 0, -1);
        fault(maps.length(), maps + "map e a a b b;");
        fault(maps.length(), maps + "map");
        fault(maps.length() + 1, maps + " map;");
        term(1, "at most 4 patterns, numbered as they come");
        right("letters 2;" + patterns);
        for (int pattern = 0; pattern < 4; pattern++) {
            due(pattern + 1, "pattern", pattern, 0);
        }
        due(INDEX, "pattern", 4, 0);
        fault(10 + patterns.length(), "letters 2;" + patterns + "pattern i x;");
        fault(10 + patterns.length(), "letters 2;" + patterns + "pattern");
        term(1, "4 of both");
        right(maps + patterns);
        due(4, "count", 1);
        due(4, "count", 2);
        fault(maps.length() + patterns.length(), maps + patterns + "map i a a b b;");
        fault(maps.length() + patterns.length(), maps + patterns + "pattern i x;");
        right("letters 2;pattern e yy;map a a ab b a;pattern f z;map b a b b bbb;");
        due(2, "imaged", 0, 0, -1);
        due(3, "imaged", 1, 1, -1);
        due(2, "pattern", 0, 1);
        due(4, "pattern", 1, 1);
    }

    private void images() {
        term(1, "IMAGE: 1 to 6 LETTERS");
        for (int n = 1; n <= 8; n++) {
            String image = "abbaabba".substring(0, n);
            if (n <= 6) {
                right("letters 2;map m a " + image + " b " + image + ";");
                due(n, "imaged", 0, 0, -1);
                due(n, "imaged", 0, 1, -1);
            } else {
                fault(18, "letters 2;map m a " + image + " b b;");
                fault(22, "letters 2;map m a a b " + image + ";");
            }
        }
        fault(17, "letters 2;map m a;");
        fault(21, "letters 2;map m a a b;");
        term(1, "LETTERS of W");
        right("letters 2;map m a ab b ba;");
        fault(18, "letters 2;map m a abc b ba;");
        right("letters 3;map m a abc b ba c cba;");
        fault(18, "letters 3;map m a abd b ba c c;");
        right("letters 4;map m a abcd b ba c d d dcbadc;");
        fault(30, "letters 4;map m a abcd b ba c e d d;");
        fault(18, "letters 4;map m a abcz b ba c c d d;");
        fault(19, "letters 4;map m a aB b ba c c d d;");
        fault(18, "letters 4;map m a 1 b b c c d d;");
        term(1, "for each LETTER, in order, that LETTER");
        fault(16, "letters 2;map m b b a a;");
        fault(16, "letters 2;map m aa b b b;");
        fault(20, "letters 3;map m a a c c b b;");
        fault(19, "letters 2;map m a a;");
        fault(23, "letters 3;map m a a b b;");
        fault(24, "letters 2;map m a a b b c c;");
        fault(28, "letters 3;map m a a b b c c d d;");
        fault(32, "letters 4;map m a a b b c c d d a a;");
        fault(28, "letters 4;map m a a b b c c e e;");
        fault(15, "letters 2;map m;");
    }

    private void patterns() {
        term(1, "P: 1 to 6 of x, y, z");
        for (int n = 1; n <= 8; n++) {
            String p = "zyxxyzxy".substring(0, n);
            if (n <= 6) {
                right("letters 2;pattern p " + p + ";");
                due(n, "pattern", 0, 0);
            } else {
                fault(20, "letters 2;pattern p " + p + ";");
            }
        }
        for (char sign = 'a'; sign <= 'z'; sign++) {
            if (sign < 'x') {
                fault(20, "letters 2;pattern p " + sign + ";");
                fault(20, "letters 2;pattern p x" + sign + "y;");
            } else {
                right("letters 2;pattern p " + sign + ";");
            }
        }
        fault(20, "letters 2;pattern p {;");
        fault(21, "letters 2;pattern p xX;");
        fault(19, "letters 2;pattern p;");
        fault(20, "letters 2;pattern p 1;");
    }

    private void avoided() {
        String four = "letters 2;pattern p x;pattern q y;pattern r z;pattern s xy;";
        term(1, "avoid: a PATTERN told ahead");
        right(four + "avoid s;avoid r;avoid q;avoid p;");
        due(4, "count", 3);
        right("letters 2;pattern p x;avoid p;pattern q y;avoid q;");
        due(2, "count", 3);
        right(four + "avoid r;");
        for (int pattern = 0; pattern < 4; pattern++) {
            due(pattern == 2 ? 1 : 0, "pattern", pattern, 2);
        }
        fault(16, "letters 2;avoid p;pattern p x;");
        fault(four.length() + 6, four + "avoid t;");
        fault(four.length() + 6, four + "avoid pp;");
        fault(four.length() + 6, four + "avoid avoid;");
        fault(four.length() + 6, four + "avoid pattern;");
        fault(four.length() + 6, four + "avoid 1;");
        fault(four.length() + 5, four + "avoid;");
        fault(30, "letters 2;map m a a b b;avoid m;");
        fault(31, "letters 2;pattern long x;avoid lon;");
        fault(31, "letters 2;pattern long x;avoid longs;");
        term(1, "avoid: each once");
        fault(four.length() + 14, four + "avoid p;avoid p;");
        fault(four.length() + 22, four + "avoid p;avoid q;avoid p;");
        fault(four.length() + 38, four + "avoid p;avoid q;avoid r;avoid s;avoid s;");
    }

    private void wordsAndNumbers() {
        term(1, "N: 1 or 2 digits");
        fault(22, "letters 2;limit under 123 over 1;");
        fault(22, "letters 2;limit under 001 over 1;");
        fault(30, "letters 2;limit under 12 over 001;");
        fault(30, "letters 2;limit under 12 over 999999999999999999999;");
        fault(22, "letters 2;limit under 4294967298 over 1;");
        fault(10, "letters 2 2;");
        fault(24, "letters 2;limit under 1 2 over 1;");
        fault(22, "letters 2;limit under -2 over 1;");
        fault(22, "letters 2;limit under x over 1;");
        fault(8, "letters x;");
        fault(8, "letters /;");
        fault(8, "letters :;");
        fault(0, "2etters 2;");
    }

    private void cutOff() {
        term(1, "the text's length, if more must come; a word cut off: at its first byte");
        for (int size = 0; size <= WHOLE.length(); size++) {
            String text = WHOLE.substring(0, size);
            if (text.endsWith(";")) {
                right(text);
                continue;
            }
            int due = size;
            Matcher word = MUST.matcher(WHOLE);
            while (word.find()) {
                if (word.start() < size && size < word.end()) {
                    due = word.start();
                }
            }
            fault(due, text);
        }
    }

    private void wrongByte() {
        term(1, "the first byte with which no such text goes on");
        for (int place = 0; place < WHOLE.length(); place++) {
            int due = place;
            Matcher word = MUST.matcher(WHOLE);
            while (word.find()) {
                if (word.start() <= place && place < word.end()) {
                    due = word.start();
                }
            }
            for (int sign : new int[] {0, '!', '/', ':', '@', 'A', '[', '`', '{', 127, 225, 255}) {
                fault(due, with(sign, place, WHOLE));
            }
        }
    }

    private static String with(int sign, int place, String text) {
        return text.substring(0, place) + (char) sign + text.substring(place + 1);
    }

    private void wrongLetter() {
        term(1, "a word at its first byte, be any of its letters another one");
        Matcher word = MUST.matcher(WHOLE);
        while (word.find()) {
            for (int place = word.start(); place < word.end(); place++) {
                fault(word.start(), with('q', place, WHOLE));
            }
        }
        for (int place = 16; place < 20; place++) {
            fault(16, with('q', place, "letters 2;limit upto 2 over 1;"));
        }
    }
}
