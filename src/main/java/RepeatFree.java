import java.util.NoSuchElementException;

/** Words without repeats: what ../shared/DOC.md promises. */
public final class RepeatFree {
    public static final int NONE = -1, CUT = -2;

    private static final int MOST_BYTES = 400;
    private static final int MOST_LETTERS = 64;
    private static final int MOST_SEARCHED = 40;
    private static final int MOST_BEHIND = 20;
    private static final int MOST_TRIES = 5000;
    private static final int MOST_ACTS = 10;
    private static final int MOST_POWER = 12;
    private static final int MOST_TOLD = 4;
    private static final int ALPHABET = 4;
    private static final int VARIABLES = 3;
    private static final int LONGEST_PART = 6;
    private static final int FED = 20;
    private static final int NO_LIMIT = 0, UNDER = 1, UPTO = 2;
    private static final int FOUND = 1;

    private final Reader reader;
    private Told told;
    private Told spare;
    private final Line current;
    private final Line picture;
    private final Search search;
    private final Sizes sizes;
    private final Acts acts;
    private final long[][] tallies;
    private final long[] ways;

    public RepeatFree() {
        reader = new Reader();
        told = new Told();
        spare = new Told();
        sizes = new Sizes();
        current = new Line();
        picture = new Line();
        search = new Search();
        acts = new Acts();
        tallies = new long[MOST_POWER + 1][ALPHABET];
        ways = new long[MOST_LETTERS + 1];
    }

    // ---- the tape and what is read from it

    public int feed(int a, int b, int c, int d, int e) {
        Tape tape = reader.tape;
        if (tape.size + FED > MOST_BYTES) {
            return NONE;
        }
        tape.add(a);
        tape.add(b);
        tape.add(c);
        tape.add(d);
        tape.add(e);
        return tape.size;
    }

    public boolean end(int n) {
        if (n < 0 || n > reader.tape.size) {
            return false;
        }
        reader.tape.size = n;
        return true;
    }

    public int read() throws IllegalArgumentException {
        boolean right = reader.takesText(spare);
        reader.tape.size = 0;
        if (!right) {
            throw new IllegalArgumentException();
        }
        Told before = told;
        told = spare;
        spare = before;
        current.clear();
        acts.clear();
        return told.letters;
    }

    public int word() throws IllegalArgumentException {
        boolean right = reader.takesLetters(told.letters, picture);
        reader.tape.size = 0;
        if (!right) {
            throw new IllegalArgumentException();
        }
        become(picture);
        return current.size;
    }

    public int fault() {
        return reader.fault;
    }

    // ---- the word's letters, and its acts

    public int letter(int place) {
        return current.at(place);
    }

    public int push(int letter) throws IllegalArgumentException, IllegalStateException {
        checkLetter(letter);
        if (current.size >= MOST_LETTERS) {
            throw new IllegalStateException();
        }
        acts.keep(current);
        current.add(letter);
        return current.size;
    }

    public int pop() throws IllegalStateException {
        if (current.size == 0) {
            throw new IllegalStateException();
        }
        acts.keep(current);
        return current.dropLast();
    }

    public int undo() {
        return acts.takeBack(current) ? acts.count : NONE;
    }

    /** Every act but a letter that comes or goes ends here, so that none is forgotten among the acts. */
    private void become(Line other) {
        acts.keep(current);
        current.copy(other, other.size);
    }

    private void checkLetter(int letter) {
        if (letter < 0 || letter >= told.letters) {
            throw new IllegalArgumentException();
        }
    }

    private void checkRange(int n, int least, int most) {
        if (n < least || n > most) {
            throw new IllegalArgumentException();
        }
    }

    private void checkWhat(int what, int most) {
        if (what < 0 || what > most) {
            throw new NoSuchElementException();
        }
    }

    private Morph mapOf(int map) {
        Morph morph = map < told.mapCount ? told.mapAt(map) : null;
        if (morph == null) {
            throw new IndexOutOfBoundsException();
        }
        return morph;
    }

    private Shape shapeOf(int pattern) {
        Shape shape = pattern < told.shapeCount ? told.shapeAt(pattern) : null;
        if (shape == null) {
            throw new IndexOutOfBoundsException();
        }
        return shape;
    }

    // ---- what the word is like

    public boolean free() {
        return current.firstBad(told) == NONE;
    }

    public int ends() {
        return current.firstBad(told);
    }

    public int greatest(int what) throws NoSuchElementException {
        checkWhat(what, 2);
        int bestSize = NONE;
        int bestPeriod = NONE;
        int bestStart = NONE;
        for (int end = 0; end < current.size; end++) {
            for (int p = 1; p <= end + 1; p++) {
                int size = p + current.alike(end, end - p);
                int start = end - size + 1;
                int more = bestSize == NONE ? 1 : size * bestPeriod - bestSize * p;
                boolean ahead = start < bestStart || start == bestStart && size > bestSize;
                if (more > 0 || more == 0 && ahead) {
                    bestSize = size;
                    bestPeriod = p;
                    bestStart = start;
                }
            }
        }
        return what == 0 ? bestSize : what == 1 ? bestPeriod : bestStart;
    }

    public int period() {
        return current.size == 0 ? NONE : current.leastPeriod(0, current.size);
    }

    public int border(int k) {
        int n = current.size;
        int index = 0;
        for (int p = 1; p < n; p++) {
            if (current.alike(n - 1, n - 1 - p) >= n - p) {
                if (index == k) {
                    return n - p;
                }
                index++;
            }
        }
        return NONE;
    }

    public int run(int k, int what) throws NoSuchElementException {
        checkWhat(what, 2);
        int index = 0;
        for (int start = 0; start < current.size; start++) {
            for (int p = 1; start + 2 * p <= current.size; p++) {
                int size = runSize(start, p);
                if (size == 0) {
                    continue;
                }
                if (index == k) {
                    return what == 0 ? start : what == 1 ? size : p;
                }
                index++;
            }
        }
        return k == NONE ? index : NONE;
    }

    /** 0, if none of this period begins there. */
    private int runSize(int start, int p) {
        if (start > 0 && current.at(start - 1) == current.at(start - 1 + p)) {
            return 0;
        }
        int size = p;
        while (start + size < current.size && current.at(start + size) == current.at(start + size - p)) {
            size++;
        }
        return size >= 2 * p && current.leastPeriod(start, size) == p ? size : 0;
    }

    public int factors(int n) throws IllegalArgumentException {
        checkRange(n, 1, MOST_LETTERS);
        int unlike = 0;
        for (int end = n - 1; end < current.size; end++) {
            boolean seen = false;
            for (int earlier = n - 1; earlier < end && !seen; earlier++) {
                seen = current.alike(end, earlier) >= n;
            }
            if (!seen) {
                unlike++;
            }
        }
        return unlike;
    }

    public int mirror() {
        int most = 0;
        for (int middle = 0; middle < 2 * current.size - 1; middle++) {
            int left = middle / 2;
            int right = left + middle % 2;
            while (left >= 0 && right < current.size && current.at(left) == current.at(right)) {
                left--;
                right++;
            }
            most = Math.max(most, right - left - 1);
        }
        return most;
    }

    public int lyndon(int k) {
        int from = 0;
        int index = 0;
        for (int end = 1; end <= current.size; end++) {
            // a LYNDON word ends where an end of THE WORD begins that is less than all that began ahead
            if (end < current.size && !current.endIsLess(end, from)) {
                continue;
            }
            if (index == k) {
                return end - from;
            }
            index++;
            from = end;
        }
        return k == NONE ? index : NONE;
    }

    public int turned() {
        if (current.size == 0) {
            return NONE;
        }
        int best = 0;
        for (int start = 1; start < current.size; start++) {
            if (current.turnIsLess(start, best)) {
                best = start;
            }
        }
        return best;
    }

    public int local(int place) throws IllegalArgumentException {
        checkRange(place, 1, current.size - 1);
        int p = 1;
        while (p < current.size && !current.repeatsAround(place, p)) {
            p++;
        }
        return p;
    }

    // ---- patterns

    public int met(int pattern, int what) throws IndexOutOfBoundsException, NoSuchElementException {
        Shape shape = shapeOf(pattern);
        checkWhat(what, VARIABLES);
        for (int start = 0; start + shape.size <= current.size; start++) {
            if (Sizes.lays(current, shape, sizes, 0, start, 1)) {
                sizes.choose(current, shape, start, false, 0);
                return what == 0 ? start : sizes.of(what - 1);
            }
        }
        return NONE;
    }

    public int whole(int pattern, int k, int what) throws IndexOutOfBoundsException, NoSuchElementException {
        Shape shape = shapeOf(pattern);
        checkWhat(what, VARIABLES - 1);
        int fitting = sizes.choose(current, shape, 0, true, k);
        if (k == NONE) {
            return fitting;
        }
        return k >= 0 && k < fitting ? sizes.of(what) : NONE;
    }

    public boolean cannot(int pattern) throws IndexOutOfBoundsException {
        return shapeOf(pattern).cannotBeAvoided();
    }

    public int loose(int pattern, int k) throws IndexOutOfBoundsException {
        Shape shape = shapeOf(pattern);
        int all = shape.variables();
        int index = 0;
        for (int set = 1; set <= all; set++) {
            if ((set & ~all) != 0 || !shape.isLoose(all, set)) {
                continue;
            }
            if (index == k) {
                return set;
            }
            index++;
        }
        return k == NONE ? index : NONE;
    }

    public int pattern(int pattern, int what) throws IndexOutOfBoundsException, NoSuchElementException {
        Shape shape = shapeOf(pattern);
        checkWhat(what, 2);
        return what == 0 ? shape.size : what == 1 ? shape.variables() : shape.avoided ? 1 : 0;
    }

    public boolean avoid(int pattern, boolean is) throws IndexOutOfBoundsException {
        Shape shape = shapeOf(pattern);
        boolean was = shape.avoided;
        shape.avoided = is;
        return was;
    }

    public int limit(int kind, int above, int below) throws IllegalArgumentException {
        checkRange(kind, NO_LIMIT, UPTO);
        checkRange(above, 1, 99);
        checkRange(below, 1, 9);
        int was = told.kind;
        told.setLimit(kind, above, below);
        return was;
    }

    // ---- searches

    public int goes() {
        if (current.size >= MOST_LETTERS || current.firstBad(told) != NONE) {
            return 0;
        }
        return search.behind(told, current);
    }

    public int ahead() {
        if (current.size >= MOST_LETTERS) {
            return 0;
        }
        int bits = 0;
        for (int letter = 0; letter < told.letters; letter++) {
            picture.clear();
            picture.add(letter);
            for (int i = 0; i < current.size; i++) {
                picture.add(current.at(i));
            }
            if (picture.firstBad(told) == NONE) {
                bits |= 1 << letter;
            }
        }
        return bits;
    }

    public int further() {
        int room = Math.min(MOST_BEHIND, MOST_LETTERS - current.size);
        if (room <= 0 || current.firstBad(told) != NONE) {
            return 0;
        }
        search.reset(told);
        search.begin(current, current.size, current.size, current.size + room);
        return search.deepestBehind();
    }

    public int longest() {
        search.reset(told);
        search.begin(current, 0, 0, MOST_SEARCHED);
        return search.deepestBehind();
    }

    public int first(int n) throws IllegalArgumentException {
        checkRange(n, 1, MOST_SEARCHED);
        return becomeNth(n, 0);
    }

    public int nth(int n, int k) throws IllegalArgumentException {
        checkRange(n, 1, MOST_SEARCHED);
        if (k < 0) {
            throw new IllegalArgumentException();
        }
        return becomeNth(n, k);
    }

    private int becomeNth(int n, int k) {
        search.reset(told);
        search.begin(current, 0, 0, n);
        int state = search.seek();
        // each word takes a TRY at least, so that none is found behind so many
        for (int index = 0; index < k && index < MOST_TRIES && state == FOUND; index++) {
            state = search.seek();
        }
        if (state != FOUND) {
            return state;
        }
        become(search.trial);
        return search.tries;
    }

    public int next() throws IllegalStateException {
        checkSearched();
        if (current.size == 0) {
            return NONE;
        }
        int bad = current.firstBad(told);
        int place = bad == NONE ? current.size - 1 : bad;
        search.reset(told);
        search.begin(current, place, 0, current.size);
        search.trying = current.at(place) + 1;
        int state = search.seek();
        if (state != FOUND) {
            return state;
        }
        int other = current.firstUnlike(search.trial);
        become(search.trial);
        return other;
    }

    private void checkSearched() {
        if (current.size > MOST_SEARCHED) {
            throw new IllegalStateException();
        }
    }

    public int many(int n) throws IllegalArgumentException {
        checkRange(n, 0, MOST_SEARCHED);
        return howMany(n);
    }

    private int howMany(int n) {
        if (n == 0) {
            return 1;
        }
        search.reset(told);
        search.begin(current, 0, 0, n);
        int found = 0;
        int state = search.seek();
        for (; found < MOST_TRIES && state == FOUND; found++) {
            state = search.seek();
        }
        return state == CUT ? CUT : found;
    }

    public int growth(int n) throws IllegalArgumentException {
        checkRange(n, 0, MOST_SEARCHED - 1);
        int shorter = howMany(n);
        if (shorter == CUT) {
            return CUT;
        }
        if (shorter <= 0) {
            return NONE;
        }
        int longer = howMany(n + 1);
        return longer == CUT ? CUT : 1000 * longer / shorter;
    }

    public int stuck(int n) throws IllegalArgumentException {
        checkRange(n, 0, MOST_SEARCHED);
        search.reset(told);
        search.begin(current, 0, 0, n);
        if (n == 0) {
            return search.behind(told, search.trial) == 0 ? 1 : 0;
        }
        int stuck = 0;
        int state = search.seek();
        for (int found = 0; found < MOST_TRIES && state == FOUND; found++) {
            if (search.behind(told, search.trial) == 0) {
                stuck++;
            }
            state = search.seek();
        }
        return state == CUT ? CUT : stuck;
    }

    public int rank() throws IllegalStateException {
        checkSearched();
        if (current.size == 0) {
            return 0;
        }
        search.reset(told);
        search.begin(current, 0, 0, current.size);
        int state = search.seek();
        int found = 0;
        for (; found < MOST_TRIES && state == FOUND && search.trial.isAheadOf(current); found++) {
            state = search.seek();
        }
        return state == CUT ? CUT : found;
    }

    // ---- maps

    public int image(int map) throws IndexOutOfBoundsException, IllegalStateException {
        Morph morph = mapOf(map);
        int size = 0;
        for (int i = 0; i < current.size; i++) {
            size += morph.sizeOf(current.at(i));
        }
        if (size > MOST_LETTERS) {
            throw new IllegalStateException();
        }
        morph.draw(current, picture);
        become(picture);
        return current.size;
    }

    public int imaged(int map, int letter, int k) throws IndexOutOfBoundsException, IllegalArgumentException {
        Morph morph = mapOf(map);
        checkLetter(letter);
        return k == NONE ? morph.sizeOf(letter) : morph.at(letter, k);
    }

    public long length(int map, int letter, int k) throws IndexOutOfBoundsException, IllegalArgumentException {
        Morph morph = mapOf(map);
        checkLetter(letter);
        checkRange(k, 0, MOST_POWER);
        tally(morph, k, NONE);
        return tallied(k, letter);
    }

    public int power(int map, int letter, int k, long place)
            throws IndexOutOfBoundsException, IllegalArgumentException {
        Morph morph = mapOf(map);
        checkLetter(letter);
        checkRange(k, 0, MOST_POWER);
        tally(morph, k, NONE);
        if (place < 0 || place >= tallied(k, letter)) {
            return NONE;
        }
        int over = letter;
        long left = place;
        for (int level = k - 1; level >= 0; level--) {
            int i = 0;
            while (i < morph.sizeOf(over) - 1 && left >= tallied(level, morph.at(over, i))) {
                left -= tallied(level, morph.at(over, i));
                i++;
            }
            over = morph.at(over, i);
        }
        return over;
    }

    public long often(int map, int letter, int k, int which)
            throws IndexOutOfBoundsException, IllegalArgumentException {
        Morph morph = mapOf(map);
        checkLetter(letter);
        checkRange(k, 0, MOST_POWER);
        checkLetter(which);
        tally(morph, k, which);
        return tallied(k, letter);
    }

    /** Counts in each POWER up to k how often a LETTER stands there (NONE: all of them). */
    private void tally(Morph morph, int k, int which) {
        for (int level = 0; level <= k && level < tallies.length; level++) {
            long[] row = tallies[level];
            for (int letter = 0; letter < told.letters && letter < row.length; letter++) {
                long sum = 0;
                if (level == 0) {
                    sum = which == NONE || which == letter ? 1 : 0;
                }
                for (int i = 0; level > 0 && i < morph.sizeOf(letter); i++) {
                    sum += tallied(level - 1, morph.at(letter, i));
                }
                row[letter] = sum;
            }
        }
    }

    private long tallied(int level, int letter) {
        if (level < 0 || level >= tallies.length || letter < 0 || letter >= ALPHABET) {
            return 0;
        }
        return tallies[level][letter];
    }

    public int keeps(int map, int n) throws IndexOutOfBoundsException, IllegalArgumentException {
        Morph morph = mapOf(map);
        checkRange(n, 1, LONGEST_PART);
        int breaker = breaker(morph, n);
        return breaker == CUT ? CUT : breaker == NONE ? 1 : 0;
    }

    public int breaks(int map, int n) throws IndexOutOfBoundsException, IllegalArgumentException {
        Morph morph = mapOf(map);
        checkRange(n, 1, LONGEST_PART);
        return breaker(morph, n);
    }

    private int breaker(Morph morph, int n) {
        search.reset(told);
        for (int size = 1; size <= n; size++) {
            search.begin(current, 0, 0, size);
            int state = search.seek();
            for (int found = 0; found < MOST_TRIES && state == FOUND; found++) {
                if (imageBreaks(morph, search.trial)) {
                    return search.trial.figures();
                }
                state = search.seek();
            }
            if (state == CUT) {
                return CUT;
            }
        }
        return NONE;
    }

    /** The words of fewer LETTERS were looked at ahead, so only what the last LETTER brings can break. */
    private boolean imageBreaks(Morph morph, Line source) {
        morph.draw(source, picture);
        int from = picture.size - morph.sizeOf(source.at(source.size - 1));
        for (int place = Math.max(0, from); place < picture.size; place++) {
            if (picture.isBadAt(told, place)) {
                return true;
            }
        }
        return false;
    }

    public int grows(int map) throws IndexOutOfBoundsException {
        Morph morph = mapOf(map);
        int bits = 0;
        for (int letter = 0; letter < told.letters; letter++) {
            if (morph.growsFrom(letter)) {
                bits |= 1 << letter;
            }
        }
        return bits;
    }

    public int uniform(int map) throws IndexOutOfBoundsException {
        Morph morph = mapOf(map);
        int size = morph.sizeOf(0);
        for (int letter = 1; letter < told.letters; letter++) {
            if (morph.sizeOf(letter) != size) {
                return NONE;
            }
        }
        return size;
    }

    public int fill(int map, int letter, int n)
            throws IndexOutOfBoundsException, IllegalArgumentException, IllegalStateException {
        Morph morph = mapOf(map);
        checkLetter(letter);
        checkRange(n, 1, MOST_LETTERS);
        if (!morph.growsFrom(letter)) {
            throw new IllegalStateException();
        }
        picture.clear();
        picture.add(letter);
        for (int i = 0; i < n && picture.size < n; i++) {
            // the first LETTER stands already: its IMAGE begins with it
            for (int k = i == 0 ? 1 : 0; k < morph.sizeOf(picture.at(i)) && picture.size < n; k++) {
                picture.add(morph.at(picture.at(i), k));
            }
        }
        become(picture);
        return current.firstBad(told);
    }

    public long sources(int map) throws IndexOutOfBoundsException {
        Morph morph = mapOf(map);
        ways[0] = 1;
        for (int end = 1; end <= current.size && end < ways.length; end++) {
            long sum = 0;
            for (int letter = 0; letter < told.letters; letter++) {
                int start = end - morph.sizeOf(letter);
                if (start >= 0 && start < end && morph.standsAt(current, start, letter)) {
                    sum += ways[start];
                }
            }
            ways[end] = sum;
        }
        int all = current.size;
        return all < ways.length ? ways[all] : 0;
    }

    public boolean code(int map) throws IndexOutOfBoundsException {
        return mapOf(map).isCode(told.letters);
    }

    public int count(int what) {
        switch (what) {
            case 0:
                return told.letters;
            case 1:
                return told.mapCount;
            case 2:
                return told.shapeCount;
            case 3:
                return told.avoidedCount();
            case 4:
                return current.size;
            case 5:
                return acts.count;
            case 6:
                return told.above;
            case 7:
                return told.below;
            case 8:
                return told.kind;
            default:
                return NONE;
        }
    }

    /** The bytes that are fed. */
    private static final class Tape {
        private final int[] bytes = new int[MOST_BYTES];
        private int size = 0;

        void add(int number) {
            for (int shift = 24; shift >= 0 && size < bytes.length; shift -= 8) {
                bytes[size] = number >>> shift & 255;
                size++;
            }
        }

        int at(int place) {
            return place >= 0 && place < size && place < bytes.length ? bytes[place] : NONE;
        }

        static boolean isBlank(int sign) {
            return sign == 9 || sign == 10 || sign == 32;
        }

        static boolean isSmall(int sign) {
            return sign >= 'a' && sign <= 'z';
        }

        static boolean isDigit(int sign) {
            return sign >= '0' && sign <= '9';
        }
    }

    /** Reads a tape; what takes something answers whether it stands there, and else has told the fault. */
    private static final class Reader {
        private final Tape tape = new Tape();
        private int at = 0;
        private int fault = NONE;
        // where the latest word or number begins; it ends where the Reader is
        private int start = 0;
        private int number = 0;

        boolean takesText(Told into) {
            begin();
            into.clear();
            if (!takesKeyword("letters") || !takesNumber(2, ALPHABET)) {
                return false;
            }
            into.letters = number;
            boolean right = takesSign(';');
            skipBlanks();
            for (int line = 0; line < MOST_BYTES && right && at < tape.size; line++) {
                right = takesLine(into) && takesSign(';');
                skipBlanks();
            }
            return right;
        }

        boolean takesLetters(int letters, Line into) {
            begin();
            into.clear();
            skipBlanks();
            for (; at < tape.size && Tape.isSmall(tape.at(at)) && tape.at(at) - 'a' < letters; at++) {
                if (into.size >= MOST_LETTERS) {
                    return miss(at);
                }
                into.add(tape.at(at) - 'a');
            }
            skipBlanks();
            return at >= tape.size || miss(at);
        }

        private void begin() {
            at = 0;
            fault = NONE;
        }

        private boolean miss(int place) {
            fault = place;
            return false;
        }

        private void skipBlanks() {
            while (at < tape.size && Tape.isBlank(tape.at(at))) {
                at++;
            }
        }

        private boolean takesWord() {
            skipBlanks();
            start = at;
            while (at < tape.size && Tape.isSmall(tape.at(at))) {
                at++;
            }
            return at > start || miss(start);
        }

        private boolean isWord(String wanted) {
            if (wanted.length() != at - start) {
                return false;
            }
            for (int i = 0; i < wanted.length(); i++) {
                if (wanted.charAt(i) != tape.at(start + i)) {
                    return false;
                }
            }
            return true;
        }

        private boolean takesKeyword(String wanted) {
            return takesWord() && (isWord(wanted) || miss(start));
        }

        private boolean takesNumber(int least, int most) {
            skipBlanks();
            start = at;
            number = 0;
            while (at < tape.size && Tape.isDigit(tape.at(at))) {
                if (at - start < 2) {
                    number = 10 * number + tape.at(at) - '0';
                }
                at++;
            }
            boolean right = at > start && at - start <= 2 && number >= least && number <= most;
            return right || miss(start);
        }

        private boolean takesSign(int sign) {
            skipBlanks();
            if (tape.at(at) != sign) {
                return miss(at);
            }
            at++;
            return true;
        }

        private boolean takesLine(Told into) {
            if (!takesWord()) {
                return false;
            }
            if (isWord("limit") && into.kind == NO_LIMIT) {
                return takesLimit(into);
            }
            if (isWord("map")) {
                return takesMap(into);
            }
            if (isWord("pattern")) {
                return takesShape(into);
            }
            return isWord("avoid") ? takesAvoid(into) : miss(start);
        }

        private boolean takesLimit(Told into) {
            if (!takesWord()) {
                return false;
            }
            int kind = isWord("under") ? UNDER : isWord("upto") ? UPTO : NO_LIMIT;
            if (kind == NO_LIMIT) {
                return miss(start);
            }
            if (!takesNumber(1, 99)) {
                return false;
            }
            int above = number;
            if (!takesKeyword("over") || !takesNumber(1, 9)) {
                return false;
            }
            into.setLimit(kind, above, number);
            return true;
        }

        private boolean takesNewName(Told into, Name name) {
            if (!takesWord()) {
                return false;
            }
            if (at - start > LONGEST_PART || isReserved() || into.isNamed(tape, start, at)) {
                return miss(start);
            }
            name.put(tape, start, at);
            return true;
        }

        private boolean isReserved() {
            return isWord("letters") || isWord("limit") || isWord("under") || isWord("upto")
                || isWord("over") || isWord("map") || isWord("pattern") || isWord("avoid");
        }

        private boolean takesMap(Told into) {
            Morph morph = into.mapAt(into.mapCount);
            if (morph == null) {
                return miss(start);
            }
            if (!takesNewName(into, morph.name)) {
                return false;
            }
            for (int letter = 0; letter < into.letters; letter++) {
                if (!takesPart('a' + letter, 1, 1) || !takesPart('a', into.letters, LONGEST_PART)) {
                    return false;
                }
                morph.put(letter, tape, start, at);
            }
            into.mapCount++;
            return true;
        }

        private boolean takesShape(Told into) {
            Shape shape = into.shapeAt(into.shapeCount);
            if (shape == null) {
                return miss(start);
            }
            if (!takesNewName(into, shape.name) || !takesPart('x', VARIABLES, LONGEST_PART)) {
                return false;
            }
            shape.put(tape, start, at);
            into.shapeCount++;
            return true;
        }

        /** A word of at most so many signs, each one of a few from the first on. */
        private boolean takesPart(int firstSign, int signs, int most) {
            if (!takesWord()) {
                return false;
            }
            boolean right = at - start <= most;
            for (int i = start; i < at; i++) {
                int sign = tape.at(i);
                right = right && sign >= firstSign && sign < firstSign + signs;
            }
            return right || miss(start);
        }

        private boolean takesAvoid(Told into) {
            if (!takesWord()) {
                return false;
            }
            for (int k = 0; k < into.shapeCount; k++) {
                Shape shape = into.shapeAt(k);
                if (shape != null && !shape.avoided && shape.name.isAt(tape, start, at)) {
                    shape.avoided = true;
                    return true;
                }
            }
            return miss(start);
        }
    }

    private static final class Name {
        private final int[] signs = new int[LONGEST_PART];
        private int size = 0;

        void put(Tape tape, int from, int to) {
            size = 0;
            for (int i = from; i < to && size < signs.length; i++) {
                signs[size] = tape.at(i);
                size++;
            }
        }

        boolean isAt(Tape tape, int from, int to) {
            if (to - from != size) {
                return false;
            }
            for (int i = 0; i < size && i < signs.length; i++) {
                if (signs[i] != tape.at(from + i)) {
                    return false;
                }
            }
            return true;
        }
    }

    /** What a text tells. */
    private static final class Told {
        private final Morph[] maps = new Morph[MOST_TOLD];
        private final Shape[] shapes = new Shape[MOST_TOLD];
        private int letters = 2;
        private int kind = NO_LIMIT;
        private int above = 0;
        private int below = 0;
        private int mapCount = 0;
        private int shapeCount = 0;

        Told() {
            for (int k = 0; k < MOST_TOLD; k++) {
                maps[k] = new Morph();
                shapes[k] = new Shape();
            }
        }

        /** Null behind the last row. */
        Morph mapAt(int k) {
            return k >= 0 && k < maps.length ? maps[k] : null;
        }

        Shape shapeAt(int k) {
            return k >= 0 && k < shapes.length ? shapes[k] : null;
        }

        void clear() {
            letters = 2;
            setLimit(NO_LIMIT, 0, 0);
            mapCount = 0;
            shapeCount = 0;
        }

        void setLimit(int kind, int above, int below) {
            this.kind = kind;
            this.above = kind == NO_LIMIT ? 0 : above;
            this.below = kind == NO_LIMIT ? 0 : below;
        }

        boolean isBeyond(int size, int period) {
            int more = size * below - above * period;
            return kind == UNDER && more >= 0 || kind == UPTO && more > 0;
        }

        boolean isNamed(Tape tape, int from, int to) {
            for (int k = 0; k < mapCount; k++) {
                Morph morph = mapAt(k);
                if (morph != null && morph.name.isAt(tape, from, to)) {
                    return true;
                }
            }
            for (int k = 0; k < shapeCount; k++) {
                Shape shape = shapeAt(k);
                if (shape != null && shape.name.isAt(tape, from, to)) {
                    return true;
                }
            }
            return false;
        }

        int avoidedCount() {
            int found = 0;
            for (int k = 0; k < shapeCount; k++) {
                Shape shape = shapeAt(k);
                if (shape != null && shape.avoided) {
                    found++;
                }
            }
            return found;
        }
    }

    /** A map. */
    private static final class Morph {
        private final Name name = new Name();
        private final int[][] images = new int[ALPHABET][LONGEST_PART];
        private final int[] imageSizes = new int[ALPHABET];

        void put(int letter, Tape tape, int from, int to) {
            if (letter < 0 || letter >= ALPHABET) {
                return;
            }
            int size = 0;
            for (int i = from; i < to && size < LONGEST_PART; i++) {
                images[letter][size] = tape.at(i) - 'a';
                size++;
            }
            imageSizes[letter] = size;
        }

        int sizeOf(int letter) {
            return letter >= 0 && letter < imageSizes.length ? imageSizes[letter] : 0;
        }

        int at(int letter, int k) {
            return k >= 0 && k < sizeOf(letter) && k < LONGEST_PART ? images[letter][k] : NONE;
        }

        boolean growsFrom(int letter) {
            return sizeOf(letter) > 1 && at(letter, 0) == letter;
        }

        boolean standsAt(Line line, int start, int letter) {
            for (int k = 0; k < sizeOf(letter); k++) {
                if (line.at(start + k) != at(letter, k)) {
                    return false;
                }
            }
            return true;
        }

        /** Puts the IMAGE of a word; what stands there of it already is left, for many words are drawn in turn. */
        void draw(Line source, Line into) {
            int place = 0;
            for (int i = 0; i < source.size; i++) {
                int letter = source.at(i);
                for (int k = 0; k < sizeOf(letter); k++) {
                    into.lay(place, at(letter, k));
                    place++;
                }
            }
            into.cutTo(place);
        }

        /**
         * Two unlike words of one IMAGE, put side by side LETTER by LETTER, leave at each step the rest of one
         * IMAGE over; seen has a bit for each such rest (of a LETTER, from a place on).
         */
        boolean isCode(int letters) {
            long seen = 0;
            for (int u = 0; u < letters; u++) {
                for (int v = 0; v < letters; v++) {
                    if (u != v && agrees(u, 0, v)) {
                        seen |= restBehind(u, 0, v);
                    }
                }
            }
            for (int round = 0; round < ALPHABET * LONGEST_PART && (seen & 1) == 0; round++) {
                for (int u = 0; u < letters; u++) {
                    for (int from = 1; from < sizeOf(u); from++) {
                        if ((seen & restBit(u, from)) != 0) {
                            seen |= restsBehind(u, from, letters);
                        }
                    }
                }
            }
            return (seen & 1) == 0;
        }

        private long restsBehind(int u, int from, int letters) {
            long rests = 0;
            for (int v = 0; v < letters; v++) {
                if (agrees(u, from, v)) {
                    rests |= restBehind(u, from, v);
                }
            }
            return rests;
        }

        private boolean agrees(int u, int from, int v) {
            for (int k = 0; from + k < sizeOf(u) && k < sizeOf(v); k++) {
                if (at(u, from + k) != at(v, k)) {
                    return false;
                }
            }
            return true;
        }

        /** The bit 1 stands for no rest at all: two words have one IMAGE. */
        private long restBehind(int u, int from, int v) {
            int left = sizeOf(u) - from;
            if (left == sizeOf(v)) {
                return 1;
            }
            return left > sizeOf(v) ? restBit(u, from + sizeOf(v)) : restBit(v, left);
        }

        private long restBit(int letter, int from) {
            return 1L << (1 + letter * LONGEST_PART + from);
        }
    }

    /** A pattern. */
    private static final class Shape {
        private final Name name = new Name();
        private final int[] parts = new int[LONGEST_PART];
        private int size = 0;
        private int shortPlaces = 0;
        private boolean avoided = false;

        void put(Tape tape, int from, int to) {
            size = 0;
            avoided = false;
            for (int i = from; i < to && size < parts.length; i++) {
                parts[size] = tape.at(i) - 'x';
                size++;
            }
            shortPlaces = needingOne();
        }

        int at(int k) {
            return k >= 0 && k < size && k < parts.length ? parts[k] : 0;
        }

        int times(int variable) {
            int found = 0;
            for (int k = 0; k < size; k++) {
                if (at(k) == variable) {
                    found++;
                }
            }
            return found;
        }

        int variables() {
            int bits = 0;
            for (int k = 0; k < size; k++) {
                bits |= 1 << at(k);
            }
            return bits;
        }

        /**
         * Of letters that stand alone, one behind another, only the first needs more than one LETTER; and it does
         * not at the PATTERN's beginning, where fewer would do, nor at its end, where it would be met sooner.
         */
        private int needingOne() {
            int alone = 0;
            for (int k = 0; k < size; k++) {
                alone |= times(at(k)) == 1 ? 1 << k : 0;
            }
            int places = alone & alone << 1;
            for (int k = 0; k < size && (alone >> k & 1) != 0; k++) {
                places |= 1 << k;
            }
            for (int k = size - 1; k >= 0 && (alone >> k & 1) != 0; k--) {
                places |= 1 << k;
            }
            return places;
        }

        /** Whether one LETTER is enough for the k-th letter, where the PATTERN ends at a place and at none ahead. */
        boolean isShort(int k) {
            return k >= 0 && (shortPlaces >> k & 1) != 0;
        }

        private int sizeWithin(int left) {
            int found = 0;
            for (int k = 0; k < size; k++) {
                found += left >> at(k) & 1;
            }
            return found;
        }

        /** Whether a set is LOOSE in what is left of the PATTERN when all but some letters are taken out. */
        boolean isLoose(int left, int set) {
            int leftPoints = set;
            int rightPoints = 0;
            for (int round = 0; round < 2 * VARIABLES; round++) {
                int before = NONE;
                for (int k = 0; k < size; k++) {
                    int variable = at(k);
                    if ((left >> variable & 1) == 0) {
                        continue;
                    }
                    if (before != NONE && (leftPoints >> before & 1) != 0) {
                        rightPoints |= 1 << variable;
                    }
                    if (before != NONE && (rightPoints >> variable & 1) != 0) {
                        leftPoints |= 1 << before;
                    }
                    before = variable;
                }
            }
            return (rightPoints & set) == 0;
        }

        boolean cannotBeAvoided() {
            int all = variables();
            // a bit for each set of letters: what is left, when all others are taken out, cannot be avoided
            int lost = 0;
            for (int left = 1; left <= all; left++) {
                if ((left & ~all) == 0 && (sizeWithin(left) == 1 || losesSome(left, lost))) {
                    lost |= 1 << left;
                }
            }
            return (lost >> all & 1) != 0;
        }

        private boolean losesSome(int left, int lost) {
            for (int set = 1; set < left; set++) {
                if ((set & ~left) == 0 && (lost >> (left & ~set) & 1) != 0 && isLoose(left, set)) {
                    return true;
                }
            }
            return false;
        }
    }

    /** Finds words for the letters of a pattern: how many LETTERS each has. */
    private static final class Sizes {
        private final int[] chosen = new int[VARIABLES];
        // where the first word laid for each letter begins (or ends: as it is laid)
        private final int[] edges = new int[VARIABLES];

        int of(int variable) {
            return variable >= 0 && variable < chosen.length ? chosen[variable] : 0;
        }

        private void set(int variable, int size, int edge) {
            if (variable >= 0 && variable < VARIABLES) {
                chosen[variable] = size;
                edges[variable] = edge;
            }
        }

        private int edge(int variable) {
            return variable >= 0 && variable < edges.length ? edges[variable] : NONE;
        }

        private void clear() {
            for (int variable = 0; variable < VARIABLES; variable++) {
                set(variable, 0, NONE);
            }
        }

        /**
         * Whether words can be laid for the k-th letter of the pattern and those behind it, one behind another
         * from a place on (step 1); or for the k-th from its end and those ahead of it, one ahead of another,
         * the first of them so that it ends at a place, in a word where none end ahead of that (step -1).
         */
        private static boolean lays(Line line, Shape shape, Sizes sizes, int k, int place, int step) {
            if (k >= shape.size || k >= LONGEST_PART) {
                return true;
            }
            if (k == 0) {
                sizes.clear();
            }
            int variable = shape.at(step > 0 ? k : shape.size - 1 - k);
            int known = sizes.of(variable);
            if (known > 0) {
                return sizes.isAgainAt(line, variable, place, step)
                    && lays(line, shape, sizes, k + 1, place + step * known, step);
            }
            int room = step > 0 ? line.size - place : place + 1;
            int times = 1;
            for (int later = k + 1; later < shape.size; later++) {
                int other = shape.at(step > 0 ? later : shape.size - 1 - later);
                if (other == variable) {
                    times++;
                } else {
                    room -= Math.max(1, sizes.of(other));
                }
            }
            int most = room;
            if (step < 0) {
                // a word that stands again farther ahead can't be longer than what stands twice
                most = times > 1 ? line.twiceAt(place) : shape.isShort(shape.size - 1 - k) ? 1 : room;
            }
            for (int size = 1; size * times <= room && size <= most; size++) {
                sizes.set(variable, size, place);
                if (lays(line, shape, sizes, k + 1, place + step * size, step)) {
                    return true;
                }
            }
            sizes.set(variable, 0, NONE);
            return false;
        }

        /** Whether the word laid for a letter stands at another place, too. */
        private boolean isAgainAt(Line line, int variable, int place, int step) {
            int size = of(variable);
            int shift = step > 0 ? size - 1 : 0;
            return line.alike(edge(variable) + shift, place + shift) >= size;
        }

        /**
         * Chooses the k-th sizes (by x, y, z) by which the pattern begins at a place (all: and is all that
         * stands from there on): how many there are, up to these.
         */
        int choose(Line line, Shape shape, int place, boolean all, int k) {
            int room = line.size - place;
            int found = 0;
            int timesX = shape.times(0);
            int timesY = shape.times(1);
            int timesZ = shape.times(2);
            for (int x = Math.min(1, timesX); x * timesX <= room && (x == 0 || timesX > 0); x++) {
                int roomY = room - x * timesX;
                for (int y = Math.min(1, timesY); y * timesY <= roomY && (y == 0 || timesY > 0); y++) {
                    int roomZ = roomY - y * timesY;
                    for (int z = leastZ(timesZ, roomZ, all); z * timesZ <= roomZ && (z == 0 || timesZ > 0); z++) {
                        if (all && z * timesZ < roomZ || !fits(line, shape, place, x, y, z)) {
                            continue;
                        }
                        found++;
                        if (found - 1 == k) {
                            return found;
                        }
                    }
                }
            }
            return found;
        }

        private int leastZ(int times, int room, boolean all) {
            return all && times > 0 ? Math.max(1, room / times) : Math.min(1, times);
        }

        private boolean fits(Line line, Shape shape, int place, int x, int y, int z) {
            set(0, x, NONE);
            set(1, y, NONE);
            set(2, z, NONE);
            int at = place;
            for (int k = 0; k < shape.size; k++) {
                int variable = shape.at(k);
                int size = of(variable);
                if (edge(variable) == NONE) {
                    set(variable, size, at);
                } else if (!isAgainAt(line, variable, at, 1)) {
                    return false;
                }
                at += size;
            }
            return at <= line.size;
        }
    }

    /** A word; for each two places of it it is known how many LETTERS that end there are alike. */
    private static final class Line {
        private final int[] letters = new int[MOST_LETTERS];
        private final int[][] same = new int[MOST_LETTERS][MOST_LETTERS];
        // the most LETTERS that end at a place and at one ahead of it, too
        private final int[] twice = new int[MOST_LETTERS];
        private final Sizes sizes = new Sizes();
        private int size = 0;

        int at(int place) {
            return place >= 0 && place < size && place < letters.length ? letters[place] : NONE;
        }

        void clear() {
            size = 0;
        }

        void cutTo(int n) {
            size = Math.max(0, Math.min(size, n));
        }

        void add(int letter) {
            int n = size;
            if (n < 0 || n >= MOST_LETTERS) {
                return;
            }
            letters[n] = letter;
            int[] row = same[n];
            int[] above = same[Math.max(0, n - 1)];
            int most = 0;
            for (int j = 0; j < n; j++) {
                int back = 0;
                if (letters[j] == letter) {
                    back = j == 0 ? 1 : above[j - 1] + 1;
                }
                row[j] = back;
                if (back > most) {
                    most = back;
                }
            }
            twice[n] = most;
            size = n + 1;
        }

        /** Puts a LETTER at a place: what stood from there on goes, if it is another one. */
        void lay(int place, int letter) {
            if (at(place) != letter) {
                cutTo(place);
                add(letter);
            }
        }

        int dropLast() {
            int last = at(size - 1);
            cutTo(size - 1);
            return last;
        }

        void copy(Line other, int n) {
            clear();
            for (int i = 0; i < n; i++) {
                add(other.at(i));
            }
        }

        /** How many LETTERS that end at two places are alike. */
        int alike(int one, int other) {
            int later = one > other ? one : other;
            int earlier = one > other ? other : one;
            if (earlier < 0 || earlier >= later || later >= size || later >= MOST_LETTERS) {
                return 0;
            }
            return same[later][earlier];
        }

        int twiceAt(int place) {
            return place >= 0 && place < size && place < twice.length ? twice[place] : 0;
        }

        int leastPeriod(int start, int n) {
            int end = start + n - 1;
            int p = 1;
            while (p < n && alike(end, end - p) < n - p) {
                p++;
            }
            return p;
        }

        /** Whether a FACTOR that ends at a place makes the word be not FREE, if all ahead of the place is FREE. */
        boolean isBadAt(Told told, int place) {
            if (told.isBeyond(1, 1)) {
                return true;
            }
            if (place < 0 || place >= MOST_LETTERS) {
                return false;
            }
            int[] row = same[place];
            for (int p = 1; p <= place; p++) {
                int back = row[place - p];
                if (back > 0 && told.isBeyond(back + p, p)) {
                    return true;
                }
            }
            for (int k = 0; k < told.shapeCount; k++) {
                Shape shape = told.shapeAt(k);
                if (shape != null && shape.avoided && Sizes.lays(this, shape, sizes, 0, place, -1)) {
                    return true;
                }
            }
            return false;
        }

        int firstBad(Told told) {
            for (int place = 0; place < size; place++) {
                if (isBadAt(told, place)) {
                    return place;
                }
            }
            return NONE;
        }

        int firstUnlike(Line other) {
            for (int i = 0; i < size; i++) {
                if (at(i) != other.at(i)) {
                    return i;
                }
            }
            return NONE;
        }

        /** Whether it is ahead in order of a word of as many LETTERS. */
        boolean isAheadOf(Line other) {
            int place = firstUnlike(other);
            return place != NONE && at(place) < other.at(place);
        }

        boolean endIsLess(int one, int other) {
            for (int i = 0; i < size; i++) {
                // behind the last LETTER stands NONE, which is less than all
                if (at(one + i) != at(other + i)) {
                    return at(one + i) < at(other + i);
                }
            }
            return false;
        }

        boolean turnIsLess(int one, int other) {
            for (int i = 0; i < size; i++) {
                int mine = at((one + i) % size);
                int its = at((other + i) % size);
                if (mine != its) {
                    return mine < its;
                }
            }
            return false;
        }

        boolean repeatsAround(int place, int p) {
            for (int i = Math.max(0, place - p); i < place && i + p < size; i++) {
                if (at(i) != at(i + p)) {
                    return false;
                }
            }
            return true;
        }

        int figures() {
            int number = 0;
            for (int i = 0; i < size && i < LONGEST_PART; i++) {
                number = 10 * number + at(i) + 1;
            }
            return number;
        }
    }

    /** Goes through FREE words in order; the trial is FREE at all times. */
    private static final class Search {
        private static final int MOST_STEPS = 1000000;
        private final Line trial = new Line();
        private Told told = null;
        private int base = 0;
        private int goal = 0;
        private int trying = 0;
        private int tries = 0;
        private int deepest = 0;

        void reset(Told rules) {
            told = rules;
            tries = 0;
        }

        /** The words of so many LETTERS (goal) that begin as the first n of another one, the first base of them held. */
        void begin(Line other, int n, int held, int wanted) {
            trial.copy(other, n);
            base = held;
            goal = wanted;
            trying = 0;
            deepest = n;
        }

        int seek() {
            if (told == null) {
                return NONE;
            }
            if (trial.size >= goal && trial.size > base) {
                trying = trial.dropLast() + 1;
            }
            for (int step = 0; step < MOST_STEPS; step++) {
                if (trying >= told.letters) {
                    if (trial.size <= base) {
                        return NONE;
                    }
                    trying = trial.dropLast() + 1;
                } else if (tries >= MOST_TRIES) {
                    return CUT;
                } else {
                    tries++;
                    trial.add(trying);
                    if (trial.isBadAt(told, trial.size - 1)) {
                        trying = trial.dropLast() + 1;
                        continue;
                    }
                    trying = 0;
                    deepest = Math.max(deepest, trial.size);
                    if (trial.size >= goal) {
                        return FOUND;
                    }
                }
            }
            return CUT;
        }

        /**
         * The most LETTERS behind what is held: a SEARCH for one more goes on where the one ahead of it ended,
         * with as many TRIES behind it, so that one SEARCH for the most of all is as good as each of them.
         */
        int deepestBehind() {
            int state = seek();
            return state == CUT ? CUT : deepest - base;
        }

        /** LETTERS (bits) by which a FREE word can go on. */
        int behind(Told rules, Line line) {
            int bits = 0;
            for (int letter = 0; letter < rules.letters && line.size < MOST_LETTERS; letter++) {
                line.add(letter);
                if (!line.isBadAt(rules, line.size - 1)) {
                    bits |= 1 << letter;
                }
                line.dropLast();
            }
            return bits;
        }
    }

    /** The words that THE WORD was ahead of the latest acts. */
    private static final class Acts {
        private final int[][] words = new int[MOST_ACTS][MOST_LETTERS];
        private final int[] wordSizes = new int[MOST_ACTS];
        private int top = 0;
        private int count = 0;

        void clear() {
            count = 0;
        }

        void keep(Line line) {
            if (top < 0 || top >= MOST_ACTS) {
                return;
            }
            int[] row = words[top];
            for (int i = 0; i < line.size && i < row.length; i++) {
                row[i] = line.at(i);
            }
            wordSizes[top] = line.size;
            top = (top + 1) % MOST_ACTS;
            count = Math.min(MOST_ACTS, count + 1);
        }

        boolean takeBack(Line line) {
            if (count == 0) {
                return false;
            }
            int latest = (top + MOST_ACTS - 1) % MOST_ACTS;
            if (latest < 0 || latest >= MOST_ACTS) {
                return false;
            }
            int[] row = words[latest];
            line.clear();
            for (int i = 0; i < wordSizes[latest] && i < row.length; i++) {
                line.add(row[i]);
            }
            top = latest;
            count--;
            return true;
        }
    }
}
