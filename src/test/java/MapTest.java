/** Promises 27 to 35, 48 to 50: maps. */
public final class MapTest extends Due {
    private static final String THUE = "letters 2; limit upto 2 over 1; map t a ab b ba;";
    private static final String THREE = "letters 3; limit under 2 over 1; map m a abc b ac c b; map l a aaaaaa b b c cab;";

    public static void main(String[] args) {
        MapTest test = new MapTest();
        test.image();
        test.imaged();
        test.length();
        test.power();
        test.often();
        test.keeps();
        test.breaks();
        test.grows();
        test.uniform();
        test.fill();
        test.sources();
        test.code();
        test.close("MapTest");
    }

    /** A call with no such map throws, whatever else is asked. */
    private void needsMap(String call, long... behind) {
        for (long map : new long[] {-1, 2, 4, Integer.MAX_VALUE, Integer.MIN_VALUE}) {
            long[] numbers = new long[behind.length + 1];
            numbers[0] = map;
            System.arraycopy(behind, 0, numbers, 1, behind.length);
            due(INDEX, call, numbers);
        }
    }

    private void image() {
        promise(27);
        due(INDEX, "image", 0);
        on(THREE);
        needsMap("image");
        due(0, "image", 0);
        due(1, "count", 5);
        tell("acb");
        due(6, "image", 0);
        is("abcbac");
        due(12, "image", 0);
        is("abcacbacabcb");
        tell("aaaaaaaaaab");
        due(61, "image", 1);
        due(STATE, "image", 1);
        due(6, "count", 5);
        tell("aaaaaaaaaac");
        due(63, "image", 1);
        tell("aaaaaaaaaacb");
        due(64, "image", 1);
        tell("aaaaaaaaaacbb");
        due(STATE, "image", 1);
        is("aaaaaaaaaacbb");
        // a longer word that begins with the IMAGE was drawn ahead of it
        on(THUE);
        due(-1, "fill", 0, 0, 64);
        tell("ab");
        due(4, "image", 0);
        is("abba");
    }

    private void imaged() {
        promise(28);
        on(THREE);
        needsMap("imaged", 9, 0);
        due(3, "imaged", 0, 0, -1);
        due(0, "imaged", 0, 0, 0);
        due(2, "imaged", 0, 0, 2);
        due(-1, "imaged", 0, 0, 3);
        due(-1, "imaged", 0, 0, -2);
        due(-1, "imaged", 0, 0, Integer.MAX_VALUE);
        due(1, "imaged", 0, 2, 0);
        due(6, "imaged", 1, 0, -1);
        due(ARGUMENT, "imaged", 0, 3, 0);
        due(ARGUMENT, "imaged", 0, -1, -1);
    }

    private void length() {
        promise(29);
        on(THREE);
        needsMap("length", 9, 0);
        long[] due = {1, 3, 6, 12, 24};
        for (int k = 0; k < due.length; k++) {
            due(due[k], "length", 0, 0, k);
        }
        due(2176782336L, "length", 1, 0, 12);
        due(1, "length", 1, 1, 12);
        due(ARGUMENT, "length", 0, 3, 0);
        due(ARGUMENT, "length", 0, 0, -1);
        due(ARGUMENT, "length", 0, 0, 13);
    }

    private void power() {
        promise(30);
        on(THREE);
        needsMap("power", 9, 0, 0);
        String power = "abcacbabcbac";
        for (int place = 0; place < power.length(); place++) {
            due(power.charAt(place) - 'a', "power", 0, 0, 3, place);
        }
        due(-1, "power", 0, 0, 3, 12);
        due(-1, "power", 0, 0, 3, -1);
        due(2, "power", 0, 2, 0, 0);
        due(-1, "power", 0, 2, 0, 1);
        due(0, "power", 1, 0, 12, 2176782335L);
        due(-1, "power", 1, 0, 12, 2176782336L);
        due(-1, "power", 1, 0, 12, Long.MAX_VALUE);
        due(-1, "power", 1, 0, 12, Long.MIN_VALUE);
        due(1, "power", 1, 2, 1, 2);
        due(ARGUMENT, "power", 0, 3, 0, 0);
        due(ARGUMENT, "power", 0, 0, 13, 0);
        due(ARGUMENT, "power", 0, 0, -1, 0);
        on(THUE);
        for (int place = 0; place < 4096; place += 37) {
            due(Integer.bitCount(place) % 2, "power", 0, 0, 12, place);
        }
    }

    private void often() {
        promise(31);
        on(THREE);
        needsMap("often", 9, 0, 0);
        // of abcacbabcbac
        due(4, "often", 0, 0, 3, 0);
        due(4, "often", 0, 0, 3, 1);
        // of abcacb, acb, abc
        due(2, "often", 0, 0, 2, 2);
        due(1, "often", 0, 1, 2, 0);
        due(0, "often", 0, 2, 1, 0);
        due(1, "often", 0, 2, 1, 1);
        due(1, "often", 0, 2, 0, 2);
        due(0, "often", 0, 2, 0, 1);
        due(2176782336L, "often", 1, 0, 12, 0);
        // of cab, cabaaaaaab
        due(7, "often", 1, 2, 2, 0);
        due(2, "often", 1, 2, 2, 1);
        due(1, "often", 1, 2, 2, 2);
        due(ARGUMENT, "often", 0, 3, 0, 0);
        due(ARGUMENT, "often", 0, 0, 13, 0);
        due(ARGUMENT, "often", 0, 0, 0, 3);
        due(ARGUMENT, "often", 0, 0, 0, -1);
    }

    private void keeps() {
        promise(32);
        on(THREE);
        needsMap("keeps", 9);
        due(1, "keeps", 0, 2);
        due(0, "keeps", 0, 3);
        due(0, "keeps", 1, 1);
        due(ARGUMENT, "keeps", 0, 0);
        due(ARGUMENT, "keeps", 0, 7);
        on(THUE);
        due(1, "keeps", 0, 6);
        due(2, "limit", 0, 1, 1);
        due(1, "keeps", 0, 6);
        on("letters 4; map m a a b b c c d d; pattern p xxxxx; pattern q xxxxxx;");
        due(1, "keeps", 0, 5);
        due(-2, "keeps", 0, 6);
        due(-2, "breaks", 0, 6);
        due(false, "avoid", 0, 1);
        due(-2, "keeps", 0, 6);
        is("");
        due(0, "count", 5);
        // of no FREE word at all all IMAGES are FREE
        due(0, "limit", 1, 1, 1);
        due(1, "keeps", 0, 6);
        // one that breaks ahead of 5000 TRIES is told
        on("letters 4; limit upto 5 over 1; map m a a b b c c d ddd; ");
        due(0, "keeps", 0, 6);
        due(44, "breaks", 0, 6);
    }

    private void breaks() {
        promise(33);
        on(THREE);
        needsMap("breaks", 9);
        due(-1, "breaks", 0, 2);
        due(121, "breaks", 0, 3);
        due(121, "breaks", 0, 6);
        due(1, "breaks", 1, 1);
        due(ARGUMENT, "breaks", 0, 0);
        due(ARGUMENT, "breaks", 0, 7);
        on("letters 2; limit upto 2 over 1; map f a ab b a; map g a ba b b;");
        // aab: ababa, babab
        due(-1, "breaks", 0, 2);
        due(112, "breaks", 0, 3);
        due(112, "breaks", 1, 3);
    }

    private void grows() {
        promise(34);
        on(THREE);
        needsMap("grows");
        due(1, "grows", 0);
        due(5, "grows", 1);
        on("letters 4; map m a a b bb c dc d dcba;");
        due(10, "grows", 0);
        on("letters 2; map m a b b a;");
        due(0, "grows", 0);
    }

    private void uniform() {
        promise(35);
        on(THREE);
        needsMap("uniform");
        due(-1, "uniform", 0);
        on("letters 2; map m a b b a; map n a aabbaa b bbbbbb; map o a ab b b;");
        due(1, "uniform", 0);
        due(6, "uniform", 1);
        due(-1, "uniform", 2);
    }

    private void fill() {
        promise(48);
        on(THREE);
        needsMap("fill", 9, 0);
        due(-1, "fill", 0, 0, 12);
        is("abcacbabcbac");
        due(-1, "fill", 0, 0, 1);
        is("a");
        due(1, "fill", 1, 0, 64);
        is("a".repeat(64));
        due(4, "fill", 1, 2, 10);
        is("cabaaaaaab");
        due(4, "count", 5);
        due(STATE, "fill", 0, 1, 3);
        due(STATE, "fill", 1, 1, 3);
        due(ARGUMENT, "fill", 0, 3, 3);
        due(ARGUMENT, "fill", 0, -1, 3);
        due(ARGUMENT, "fill", 0, 1, 0);
        due(ARGUMENT, "fill", 0, 0, 65);
        due(4, "count", 5);
    }

    private void sources() {
        promise(49);
        on(THREE);
        needsMap("sources");
        due(1, "sources", 0);
        tell("abcbac");
        due(1, "sources", 0);
        tell("a");
        due(0, "sources", 0);
        tell("aaaaaa");
        due(1, "sources", 1);
        on("letters 4; map m a a b a c aa d b; map n a a b a c a d a;");
        tell("aaa");
        // by words for a, aa: two for each a, one for two of them
        due(12, "sources", 0);
        tell("aab");
        due(5, "sources", 0);
        tell("aac");
        due(0, "sources", 0);
        tell("a".repeat(31));
        due(1L << 62, "sources", 1);
        tell("a".repeat(32));
        due(0, "sources", 1);
        tell("a".repeat(64));
        due(0, "sources", 1);
    }

    private void isCode(boolean code, String images) {
        on("letters " + (images.contains(" c ") ? 3 : 2) + "; map m " + images + ";");
        due(code, "code", 0);
    }

    private void code() {
        promise(50);
        on(THREE);
        needsMap("code");
        due(true, "code", 0);
        isCode(true, "a ab b ba");
        isCode(true, "a ab b a");
        isCode(false, "a a b a");
        isCode(false, "a a b aa");
        isCode(false, "a a b ab c ba");
        isCode(true, "a a b ab c bb");
        isCode(false, "a ab b aba c baab");
        isCode(false, "a abab b ab");
        isCode(true, "a ab b abb c baab");
        isCode(false, "a aabb b aa c bb");
        isCode(true, "a aaab b aaaaa c bbb");
    }
}
