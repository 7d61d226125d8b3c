/** A telephone that puts another word of its list in the place of each word that is typed. */
public final class PutBack {
    public static final int NONE = -1, BAD = -2, STATE = -3, FULL = -4;
    public static final long NO = Long.MIN_VALUE;

    private static final int NOTHING = -5, OTHER_KIND = -6;
    private static final int COST_NONE = -10001, COST_BAD = -10002;

    private static final int LETTERS = 8, LETTERS_MOST = 5, SHORT_MOST = 888, WORD_MOST = 88888;
    private static final int LIST_MOST = 8, WEIGHT_MOST = 99;
    private static final int MENDERS_MOST = 5, KINDS = 7, V_MOST = 9, ROW_SIZE = 4, ROW_MOST = 9;
    private static final int TEXT_MOST = 20, LEFT_MOST = 6, BOOK_MOST = 8, TRACE_MOST = 20;
    private static final int TAPE_MOST = 100, SIGN_MOST = 127, PHONES_MOST = 5;
    private static final int CLAUSES_MOST = 10, OPEN_MOST = 5;
    private static final int STANDS_MOST = 30, ROUNDS_MOST = 10, GUESSES = 3;
    private static final int STANDING = 10, WAS_TYPED = 40, WAS_LEFT = 70, BECOME = 10;

    private static final int NEAR = 1, AHEAD = 2, SHY = 3, LEARNING = 4, GUESSING = 5, TOLD = 6;
    /** The KIND above each one; none above the first. */
    private static final int[] ABOVE = {-1, 0, 0, 0, 1, 2, 3};

    private static final int ACTS = 3, MENDS = 0, LEAVES = 1, TELLS = 2;
    /** The bodies of each KIND: mends, leaves, tells; 0 where it has none of its own. */
    private static final int[] BODIES = {
        1, 2, 3,
        11, 0, 0,
        0, 21, 0,
        0, 0, 31,
        0, 0, 41,
        51, 0, 0,
        0, 61, 0};

    private final State now;
    private final State kept;
    private boolean isKept;
    private final Reader reader;
    private final Maker maker;
    private final Acts acts;
    /** For each of THE LIST the least short WORD of which it is made, as shortWays found it. */
    private final int[] ways;
    /** The WORDS of a ROUND, or what those of THE LIST have become in a CHAIN. */
    private final int[] course;

    public PutBack() {
        maker = new Maker();
        now = maker.state;
        kept = new State();
        isKept = false;
        reader = new Reader();
        acts = new Acts();
        ways = new int[LIST_MOST];
        course = new int[LIST_MOST + 2];
    }

    // ---- telephones, the list, menders

    public int feed(int sign) {
        if (sign < 0 || sign > SIGN_MOST) {
            return BAD;
        }
        if (now.tapeSize < 0 || now.tapeSize >= TAPE_MOST) {
            return FULL;
        }
        now.tape[now.tapeSize] = sign;
        now.tapeSize++;
        return now.tapeSize;
    }

    public int telephone() {
        if (now.phones >= PHONES_MOST) {
            return FULL;
        }
        int fault = reader.faultOf(now.tape, now.tapeSize);
        now.tapeSize = 0;
        if (fault >= 0) {
            return -10 - fault;
        }
        now.phone.copy(reader.phone);
        now.phones++;
        return now.phones - 1;
    }

    public int word(int word, int weight) {
        if (!isWord(word) || weight < 0 || weight > WEIGHT_MOST) {
            return BAD;
        }
        if (now.list.numberOf(word) >= 0) {
            return STATE;
        }
        return now.list.add(word, weight) ? now.list.size - 1 : FULL;
    }

    public int listed(int i, int what) {
        if (!now.list.has(i)) {
            return NONE;
        }
        switch (what) {
            case 0:
                return now.list.words[i];
            case 1:
                return now.list.weights[i];
            case 2:
                return now.list.nexts[i];
            default:
                return NONE;
        }
    }

    public int weigh(int i, int n) {
        if (!now.list.has(i)) {
            return NONE;
        }
        if (n < 0 || n > WEIGHT_MOST) {
            return BAD;
        }
        int was = now.list.weights[i];
        now.list.weights[i] = n;
        return was;
    }

    public int behind(int i, int next, boolean is) {
        if (!now.list.has(i) || !now.list.has(next)) {
            return NONE;
        }
        int was = now.list.nexts[i];
        int bit = 1 << next;
        now.list.nexts[i] = is ? was | bit : was & ~bit;
        return (was & bit) != 0 ? 1 : 0;
    }

    public int mender(int kind, int v) {
        if (kind < 0 || kind >= KINDS) {
            return NONE;
        }
        if (v < 0 || v > V_MOST) {
            return BAD;
        }
        return now.crew.add(kind, v) ? now.crew.size - 1 : FULL;
    }

    public int of(int mender, int what) {
        if (!now.crew.has(mender)) {
            return NONE;
        }
        switch (what) {
            case 0:
                return now.crew.kinds[mender];
            case 1:
                return now.crew.vs[mender];
            default:
                return NONE;
        }
    }

    public int row(int mender, int k, int n) {
        if (!now.crew.has(mender) || k < 0 || k >= ROW_SIZE) {
            return NONE;
        }
        if (n < 0 || n > ROW_MOST) {
            return BAD;
        }
        if (now.crew.kinds[mender] != TOLD) {
            return STATE;
        }
        int place = mender * ROW_SIZE + k;
        int was = now.crew.rows[place];
        now.crew.rows[place] = n;
        return was;
    }

    // ---- typing

    public int type(int mender, int word) {
        if (!now.crew.has(mender)) {
            return NONE;
        }
        if (!isWord(word)) {
            return BAD;
        }
        if (now.text.size >= TEXT_MOST) {
            return FULL;
        }
        maker.settle();
        int made = maker.typeOnce(mender, word);
        copyInts(maker.weights, now.list.weights);
        now.text.typed = maker.typed;
        now.text.add(made, word);
        return made;
    }

    public int back() {
        return now.text.takeBack() ? now.text.last() : STATE;
    }

    public int send() {
        int stood = now.text.size;
        now.text.size = 0;
        return stood;
    }

    public int told(int what) {
        Text text = now.text;
        switch (what) {
            case 0:
                return text.typed;
            case 1:
                return now.phone.limit;
            case 2:
                return now.phone.step;
            case 3:
                return text.leftSize;
            default:
                break;
        }
        if (isAt(what - STANDING, text.size)) {
            return text.standing[what - STANDING];
        }
        if (isAt(what - WAS_TYPED, text.size)) {
            return text.fingered[what - WAS_TYPED];
        }
        if (isAt(what - WAS_LEFT, text.leftSize)) {
            return text.left[what - WAS_LEFT];
        }
        return NONE;
    }

    // ---- what it makes

    public int makes(int mender, int word) {
        int refusal = refusalOf(mender, word);
        if (refusal != 0) {
            return refusal;
        }
        maker.settle();
        return maker.madeOf(mender, word);
    }

    public int cost(int mender, int word, int i, int what) {
        if (!now.crew.has(mender) || !now.list.has(i) || what < 0 || what > 1) {
            return COST_NONE;
        }
        if (!isWord(word)) {
            return COST_BAD;
        }
        maker.settle();
        return what == 0 ? maker.costOf(mender, word, i) : maker.priceOf(mender, word, i);
    }

    public int stays(int mender) {
        if (!now.crew.has(mender)) {
            return NONE;
        }
        maker.settle();
        int bits = 0;
        for (int i = 0; i < now.list.size; i++) {
            if (staysOne(mender, i)) {
                bits |= 1 << i;
            }
        }
        return bits;
    }

    public int touches(int mender, int word, int what) {
        if (!now.crew.has(mender) || what < 0 || what > 2) {
            return NONE;
        }
        if (!isWord(word)) {
            return BAD;
        }
        maker.settle();
        int way = wayTo(mender, word);
        int takenBack = lettersOf(word) + 2;
        boolean isBack = way == 0 || lettersOf(way) + 1 > takenBack;
        switch (what) {
            case 0:
                return isBack ? takenBack : lettersOf(way) + 1;
            case 1:
                return isBack ? word : way;
            default:
                return isBack ? 1 : 0;
        }
    }

    public int never(int mender) {
        if (!now.crew.has(mender)) {
            return NONE;
        }
        maker.settle();
        shortWays(mender);
        int bits = 0;
        for (int i = 0; i < now.list.size; i++) {
            if (ways[i] == 0 && !staysOne(mender, i)) {
                bits |= 1 << i;
            }
        }
        return bits;
    }

    public int round(int mender, int word, int what) {
        if (!now.crew.has(mender) || what < 0 || what > 1) {
            return NONE;
        }
        if (!isWord(word)) {
            return BAD;
        }
        maker.settle();
        course[0] = word;
        for (int n = 1; n < course.length; n++) {
            course[n] = maker.madeOf(mender, course[n - 1]);
            for (int k = 0; k < n; k++) {
                if (course[k] == course[n]) {
                    return what == 0 ? n : n - k;
                }
            }
        }
        return NONE;
    }

    public int stands(int mender, int word) {
        int refusal = refusalOf(mender, word);
        if (refusal != 0) {
            return refusal;
        }
        maker.settle();
        for (int n = 1; n <= STANDS_MOST; n++) {
            if (maker.typeOnce(mender, word) == word) {
                return n;
            }
        }
        return NOTHING;
    }

    // ---- guesses, weights

    public int guess(int beginning, int k) {
        if (!isWord(beginning)) {
            return BAD;
        }
        if (k < 0 || k >= GUESSES) {
            return NONE;
        }
        for (int i = 0; i < now.list.size; i++) {
            if (now.list.begins(i, beginning) && now.list.aheadOf(i, beginning) == k) {
                return i;
            }
        }
        return NOTHING;
    }

    public int letter(int i) {
        if (!now.list.has(i)) {
            return NONE;
        }
        int size = now.list.sizes[i];
        for (int n = 1; n <= size; n++) {
            if (now.list.aheadOf(i, withoutLast(now.list.words[i], size - n)) < GUESSES) {
                return n;
            }
        }
        return NOTHING;
    }

    public int enough(int mender, int i) {
        if (!now.crew.has(mender) || !now.list.has(i)) {
            return NONE;
        }
        maker.settle();
        for (int n = 0; n <= WEIGHT_MOST; n++) {
            maker.weights[i] = n;
            if (staysOne(mender, i)) {
                return n;
            }
        }
        return NOTHING;
    }

    // ---- slips, chains; part 0 above, 1 below the line

    public long slips(int mender, int word, int part) {
        if (!now.crew.has(mender) || part < 0 || part > 1 || !isWord(word)) {
            return NO;
        }
        maker.settle();
        return partOf(maker.slipsInto(mender, word, word), slipsOf(word), part);
    }

    public long wrong(int mender, int part) {
        if (!now.crew.has(mender) || part < 0 || part > 1 || now.list.size == 0) {
            return NO;
        }
        return partOf(now.list.size - Integer.bitCount(stays(mender)), now.list.size, part);
    }

    public int chain(int mender, int n, int what) {
        if (!now.crew.has(mender) || what != 0 && what != 1 && !now.list.has(what - BECOME)) {
            return NONE;
        }
        if (n < 1 || n > ROUNDS_MOST) {
            return BAD;
        }
        int settled = runChain(mender, n);
        switch (what) {
            case 0:
                return unlikeOf(course, now.list.size);
            case 1:
                return settled;
            default:
                return course[what - BECOME];
        }
    }

    // ---- what was meant

    public int meant(int mender, int word) {
        int refusal = refusalOf(mender, word);
        if (refusal != 0) {
            return refusal;
        }
        maker.settle();
        int bits = 0;
        for (int i = 0; i < now.list.size; i++) {
            if (waysFrom(mender, i, word) > 0) {
                bits |= 1 << i;
            }
        }
        return bits;
    }

    public int likeliest(int mender, int word) {
        int refusal = refusalOf(mender, word);
        if (refusal != 0) {
            return refusal;
        }
        maker.settle();
        int best = NOTHING;
        int most = 0;
        for (int i = 0; i < now.list.size; i++) {
            int score = (now.list.weights[i] + 1) * waysFrom(mender, i, word);
            if (score > most) {
                most = score;
                best = i;
            }
        }
        return best;
    }

    public int who(int typed, int arrived) {
        if (!isWord(typed) || !isWord(arrived)) {
            return BAD;
        }
        maker.settle();
        int bits = 0;
        for (int m = 0; m < now.crew.size; m++) {
            if (maker.madeOf(m, typed) == arrived) {
                bits |= 1 << m;
            }
        }
        return bits;
    }

    public int twins() {
        int best = NOTHING;
        int least = 0;
        for (int i = 0; i < now.list.size; i++) {
            for (int j = i + 1; j < now.list.size; j++) {
                int far = maker.plainFar(now.list.words[i], j);
                if (best == NOTHING || far < least) {
                    least = far;
                    best = 10 * i + j;
                }
            }
        }
        return best;
    }

    public int room(int mender) {
        if (!now.crew.has(mender)) {
            return NONE;
        }
        maker.settle();
        return shortWays(mender);
    }

    public int saved(int mender) {
        if (!now.crew.has(mender)) {
            return NONE;
        }
        maker.settle();
        shortWays(mender);
        int sum = 0;
        for (int i = 0; i < now.list.size; i++) {
            if (ways[i] != 0) {
                sum += Math.max(0, now.list.sizes[i] - lettersOf(ways[i]));
            }
        }
        return sum;
    }

    public int book(int mender, int word, int made) {
        if (mender == -1) {
            now.book.size = 0;
            return 0;
        }
        if (!now.crew.has(mender)) {
            return NONE;
        }
        if (!isWord(word) || !isWord(made)) {
            return BAD;
        }
        return now.book.add(mender, word, made) ? now.book.size : FULL;
    }

    public int looked() {
        Book book = now.book;
        maker.settle();
        for (int i = 0; i < book.size; i++) {
            if (maker.madeOf(book.menders[i], book.typed[i]) != book.made[i]) {
                return i;
            }
        }
        return NOTHING;
    }

    // ---- acts, the image

    public int act(int mender, int act, int x) {
        acts.forget();
        if (!now.crew.has(mender) || act < 0 || act >= ACTS) {
            return 0;
        }
        return acts.start(mender, now.crew.kinds[mender], now.crew.vs[mender], act, x);
    }

    public int trace(int i) {
        return isAt(i, Math.min(acts.ran, TRACE_MOST)) ? acts.bodies[i] : NONE;
    }

    public int as(int mender, int k) {
        if (!now.crew.has(mender) || k < 0 || k >= KINDS) {
            return NONE;
        }
        return isUnder(now.crew.kinds[mender], k) ? now.crew.vs[mender] : OTHER_KIND;
    }

    public int image() {
        kept.copy(now);
        isKept = true;
        return now.crew.size;
    }

    public int undo() {
        if (!isKept) {
            return STATE;
        }
        now.copy(kept);
        return now.crew.size;
    }

    public int count(int what) {
        switch (what) {
            case 0:
                return now.crew.size;
            case 1:
                return now.list.size;
            case 2:
                return now.phones;
            case 3:
                return now.text.size;
            case 4:
                return now.book.size;
            case 5:
                return now.tapeSize;
            case 6:
                return acts.ran;
            default:
                return NONE;
        }
    }

    // ---- what several calls share

    /** NONE or BAD for a MENDER and a WORD; 0 if both are fit. */
    private int refusalOf(int mender, int word) {
        if (!now.crew.has(mender)) {
            return NONE;
        }
        return isWord(word) ? 0 : BAD;
    }

    private boolean staysOne(int mender, int i) {
        int word = now.list.words[i];
        return maker.madeOf(mender, word) == word;
    }

    /** The least WORD to type for a WORD to stand; 0 if there is none. A lesser number never has more LETTERS. */
    private int wayTo(int mender, int word) {
        for (int w = 1; w <= SHORT_MOST; w++) {
            if (isWord(w) && maker.madeOf(mender, w) == word) {
                return w;
            }
        }
        return maker.madeOf(mender, word) == word ? word : 0;
    }

    /** Fills the ways; tells how many short WORDS become one of THE LIST. */
    private int shortWays(int mender) {
        for (int i = 0; i < LIST_MOST; i++) {
            ways[i] = 0;
        }
        int found = 0;
        for (int w = 1; w <= SHORT_MOST; w++) {
            int i = isWord(w) ? now.list.numberOf(maker.madeOf(mender, w)) : -1;
            if (now.list.has(i)) {
                found++;
                if (ways[i] == 0) {
                    ways[i] = w;
                }
            }
        }
        return found;
    }

    /** Runs the rounds of a CHAIN over the course: behind how many the next one made nothing otherwise. */
    private int runChain(int mender, int rounds) {
        int size = now.list.size;
        copyInts(now.list.words, course);
        maker.settle();
        maker.last = -1;
        int settled = NOTHING;
        for (int r = 0; r < rounds; r++) {
            boolean isSame = true;
            for (int i = 0; i < size; i++) {
                int made = maker.typeOnce(mender, course[i]);
                isSame = isSame && made == course[i];
                course[i] = made;
            }
            if (isSame && settled == NOTHING) {
                settled = r;
            }
        }
        return settled;
    }

    /** In how many ways, with no slip or with one, the WORD that arrived is made if one of THE LIST was meant. */
    private int waysFrom(int mender, int i, int arrived) {
        int word = now.list.words[i];
        int straight = maker.madeOf(mender, word) == arrived ? 1 : 0;
        return straight + maker.slipsInto(mender, word, arrived);
    }

    private static boolean isAt(int i, int size) {
        return i >= 0 && i < size;
    }

    private static void copyInts(int[] from, int[] to) {
        int size = Math.min(from.length, to.length);
        for (int i = 0; i < size; i++) {
            to[i] = from[i];
        }
    }

    private static int unlikeOf(int[] words, int size) {
        int unlike = 0;
        for (int i = 0; i < size; i++) {
            boolean isNew = true;
            for (int j = 0; j < i; j++) {
                isNew = isNew && words[j] != words[i];
            }
            unlike += isNew ? 1 : 0;
        }
        return unlike;
    }

    private static boolean isUnder(int kind, int above) {
        int at = kind;
        for (int n = 0; n < KINDS && at >= 0 && at < KINDS; n++) {
            if (at == above) {
                return true;
            }
            at = ABOVE[at];
        }
        return false;
    }

    // ---- words, fractions

    private static boolean isWord(int number) {
        return lettersOf(number) > 0;
    }

    /** How many LETTERS a WORD has; 0 for what is no WORD. */
    private static int lettersOf(int number) {
        if (number < 1 || number > WORD_MOST) {
            return 0;
        }
        int letters = 0;
        int rest = number;
        while (letters < LETTERS_MOST && rest > 0) {
            int letter = rest % 10;
            if (letter < 1 || letter > LETTERS) {
                return 0;
            }
            letters++;
            rest /= 10;
        }
        return letters;
    }

    private static int withoutLast(int word, int letters) {
        int rest = word;
        for (int n = 0; n < letters && n < LETTERS_MOST; n++) {
            rest /= 10;
        }
        return rest;
    }

    /** 4 apart is above; 1 apart is beside, but for 4 and 5, which end one row and begin the other. */
    private static boolean isNear(int a, int b) {
        int apart = a < b ? b - a : a - b;
        return apart == 4 || apart == 1 && a + b != 9;
    }

    /** In how many ways just one LETTER of a WORD could slip. */
    private static int slipsOf(int word) {
        int slips = 0;
        int rest = word;
        for (int n = 0; n < LETTERS_MOST && rest > 0; n++) {
            for (int letter = 1; letter <= LETTERS; letter++) {
                slips += isNear(rest % 10, letter) ? 1 : 0;
            }
            rest /= 10;
        }
        return slips;
    }

    private static long partOf(int above, int below, int part) {
        int a = above;
        int b = below;
        for (int n = 0; n < 100 && a != 0; n++) {
            int rest = b % a;
            b = a;
            a = rest;
        }
        if (b == 0) {
            return NO;
        }
        return part == 0 ? above / b : below / b;
    }

    /** All that THE IMAGE holds. */
    private static final class State {
        final Words list = new Words();
        final Crew crew = new Crew();
        final Text text = new Text();
        final Phone phone = new Phone();
        final Book book = new Book();
        final int[] tape = new int[TAPE_MOST];
        int tapeSize = 0;
        int phones = 0;

        void copy(State from) {
            list.copy(from.list);
            crew.copy(from.crew);
            text.copy(from.text);
            phone.copy(from.phone);
            book.copy(from.book);
            copyInts(from.tape, tape);
            tapeSize = from.tapeSize;
            phones = from.phones;
        }
    }

    /** THE LIST. */
    private static final class Words {
        final int[] words = new int[LIST_MOST];
        final int[] weights = new int[LIST_MOST];
        final int[] nexts = new int[LIST_MOST];
        final int[] sizes = new int[LIST_MOST];
        final int[] letters = new int[LIST_MOST * LETTERS_MOST];
        int size = 0;

        boolean has(int i) {
            return i >= 0 && i < size;
        }

        boolean add(int word, int weight) {
            if (size < 0 || size >= LIST_MOST) {
                return false;
            }
            words[size] = word;
            weights[size] = weight;
            nexts[size] = 0;
            sizes[size] = lettersOf(word);
            int rest = word;
            for (int k = sizes[size] - 1; k >= 0 && k < LETTERS_MOST; k--) {
                letters[size * LETTERS_MOST + k] = rest % 10;
                rest /= 10;
            }
            size++;
            return true;
        }

        int numberOf(int word) {
            for (int i = 0; i < size; i++) {
                if (words[i] == word) {
                    return i;
                }
            }
            return -1;
        }

        boolean begins(int i, int beginning) {
            int more = sizes[i] - lettersOf(beginning);
            return more >= 0 && withoutLast(words[i], more) == beginning;
        }

        /** How many that begin alike are guessed ahead of one of THE LIST. */
        int aheadOf(int i, int beginning) {
            int ahead = 0;
            for (int j = 0; j < size; j++) {
                boolean isAhead = weights[j] > weights[i] || weights[j] == weights[i] && j < i;
                ahead += isAhead && begins(j, beginning) ? 1 : 0;
            }
            return ahead;
        }

        void copy(Words from) {
            copyInts(from.words, words);
            copyInts(from.weights, weights);
            copyInts(from.nexts, nexts);
            copyInts(from.sizes, sizes);
            copyInts(from.letters, letters);
            size = from.size;
        }
    }

    /** The MENDERS. */
    private static final class Crew {
        final int[] kinds = new int[MENDERS_MOST];
        final int[] vs = new int[MENDERS_MOST];
        final int[] rows = new int[MENDERS_MOST * ROW_SIZE];
        int size = 0;

        boolean has(int mender) {
            return mender >= 0 && mender < size;
        }

        boolean add(int kind, int v) {
            if (size < 0 || size >= MENDERS_MOST) {
                return false;
            }
            kinds[size] = kind;
            vs[size] = v;
            for (int k = 0; k < ROW_SIZE; k++) {
                rows[size * ROW_SIZE + k] = 0;
            }
            size++;
            return true;
        }

        void copy(Crew from) {
            copyInts(from.kinds, kinds);
            copyInts(from.vs, vs);
            copyInts(from.rows, rows);
            size = from.size;
        }
    }

    /** THE TEXT, TYPED and the LEFT. */
    private static final class Text {
        final int[] standing = new int[TEXT_MOST];
        final int[] fingered = new int[TEXT_MOST];
        final int[] left = new int[LEFT_MOST];
        int size = 0;
        int typed = 0;
        int leftSize = 0;

        void add(int made, int word) {
            if (size >= 0 && size < TEXT_MOST) {
                standing[size] = made;
                fingered[size] = word;
                size++;
            }
        }

        /** The last WORD that stands; 0, which is no WORD, if none does. */
        int last() {
            return size > 0 && size <= TEXT_MOST ? standing[size - 1] : 0;
        }

        boolean takeBack() {
            if (size <= 0 || size > TEXT_MOST) {
                return false;
            }
            int word = fingered[size - 1];
            standing[size - 1] = word;
            if (!isLeft(word) && leftSize >= 0 && leftSize < LEFT_MOST) {
                left[leftSize] = word;
                leftSize++;
            }
            return true;
        }

        boolean isLeft(int word) {
            for (int i = 0; i < leftSize; i++) {
                if (left[i] == word) {
                    return true;
                }
            }
            return false;
        }

        void copy(Text from) {
            copyInts(from.standing, standing);
            copyInts(from.fingered, fingered);
            copyInts(from.left, left);
            size = from.size;
            typed = from.typed;
            leftSize = from.leftSize;
        }
    }

    /** The BOOK told by hand. */
    private static final class Book {
        final int[] menders = new int[BOOK_MOST];
        final int[] typed = new int[BOOK_MOST];
        final int[] made = new int[BOOK_MOST];
        int size = 0;

        boolean add(int mender, int word, int becomes) {
            if (size < 0 || size >= BOOK_MOST) {
                return false;
            }
            menders[size] = mender;
            typed[size] = word;
            made[size] = becomes;
            size++;
            return true;
        }

        void copy(Book from) {
            copyInts(from.menders, menders);
            copyInts(from.typed, typed);
            copyInts(from.made, made);
            size = from.size;
        }
    }

    /** A TELEPHONE: LIMIT, STEP and what is dear or free, each E as a row of signs that is worked off with a stack. */
    private static final class Phone {
        static final int LIMIT_AT_FIRST = 12, STEP_AT_FIRST = 10, FACTS = 6;
        static final int NOT = -1, AND = -2, OR = -3;

        int limit = LIMIT_AT_FIRST;
        int step = STEP_AT_FIRST;
        final int[] amounts = new int[CLAUSES_MOST];
        final int[] ends = new int[CLAUSES_MOST];
        int clauses = 0;
        /** A sign is NOT, AND, OR, or a TEST: fact * 300 + comparison * 100 + number. */
        final int[] signs = new int[TAPE_MOST];
        int size = 0;

        void clear() {
            limit = LIMIT_AT_FIRST;
            step = STEP_AT_FIRST;
            clauses = 0;
            size = 0;
        }

        void put(int sign) {
            if (size >= 0 && size < TAPE_MOST) {
                signs[size] = sign;
                size++;
            }
        }

        /** The signs put since the clause ahead are its E; what is free has an amount below 0. */
        void close(int amount) {
            if (clauses >= 0 && clauses < CLAUSES_MOST) {
                amounts[clauses] = amount;
                ends[clauses] = size;
                clauses++;
            }
        }

        int extra(int[] facts) {
            int sum = 0;
            int from = 0;
            for (int c = 0; c < clauses; c++) {
                if (holds(from, ends[c], facts)) {
                    sum += amounts[c];
                }
                from = ends[c];
            }
            return sum;
        }

        /** At most two values wait for each of the few open brackets, so the bits of one int are stack enough. */
        private boolean holds(int from, int to, int[] facts) {
            int stack = 0;
            for (int at = from; at < to && at < TAPE_MOST; at++) {
                int sign = signs[at];
                int top = stack & 1;
                if (sign == NOT) {
                    stack ^= 1;
                } else if (sign == AND) {
                    stack = (stack >> 1) & (top | -2);
                } else if (sign == OR) {
                    stack = (stack >> 1) | top;
                } else {
                    stack = (stack << 1) | (passes(sign, facts) ? 1 : 0);
                }
            }
            return (stack & 1) == 1;
        }

        private static boolean passes(int sign, int[] facts) {
            int fact = sign / 300;
            if (fact < 0 || fact >= facts.length) {
                return false;
            }
            int number = sign % 100;
            switch (sign / 100 % 3) {
                case 0:
                    return facts[fact] < number;
                case 1:
                    return facts[fact] == number;
                default:
                    return facts[fact] > number;
            }
        }

        void copy(Phone from) {
            limit = from.limit;
            step = from.step;
            copyInts(from.amounts, amounts);
            copyInts(from.ends, ends);
            clauses = from.clauses;
            copyInts(from.signs, signs);
            size = from.size;
        }
    }

    /** Reads a TELEPHONE; where a part returns false, the place is that of the FAULT. */
    private static final class Reader {
        final Phone phone = new Phone();
        private int[] tape = new int[0];
        private int size = 0;
        private int place = 0;

        /** The FAULT; -1 if there is none, and the TELEPHONE is read. */
        int faultOf(int[] bytes, int count) {
            tape = bytes;
            size = Math.min(count, bytes.length);
            place = 0;
            phone.clear();
            for (int n = 1; n <= CLAUSES_MOST; n++) {
                if (!readClause()) {
                    return place;
                }
                if (place >= size) {
                    return -1;
                }
                if (n == CLAUSES_MOST || !readSign(';')) {
                    return place;
                }
            }
            return place;
        }

        private int peek() {
            return place >= 0 && place < size ? tape[place] : -1;
        }

        private boolean readSign(int sign) {
            if (peek() != sign) {
                return false;
            }
            place++;
            return true;
        }

        private boolean readName(String name) {
            for (int i = 0; i < name.length(); i++) {
                if (!readSign(name.charAt(i))) {
                    return false;
                }
            }
            return readSign(' ');
        }

        private boolean readClause() {
            int first = peek();
            int n = readName(nameBy(first)) ? readNumber() : -1;
            if (n < 0) {
                return false;
            }
            if (first == 'l') {
                phone.limit = n;
                return true;
            }
            if (first == 's') {
                phone.step = n;
                return true;
            }
            if (!readSign(' ') || !readEither(0)) {
                return false;
            }
            phone.close(first == 'd' ? n : -n);
            return true;
        }

        /** Any name will do for a sign with which none begins: reading it fails at once. */
        private static String nameBy(int first) {
            switch (first) {
                case 'l':
                    return "limit";
                case 's':
                    return "step";
                case 'd':
                    return "dear";
                default:
                    return "free";
            }
        }

        /** One digit, or two of which the first is not 0; -1 if there is none. */
        private int readNumber() {
            int first = peek() - '0';
            if (first < 0 || first > 9) {
                return -1;
            }
            place++;
            int second = peek() - '0';
            if (first == 0 || second < 0 || second > 9) {
                return first;
            }
            place++;
            return first * 10 + second;
        }

        /** E, with so many of ! and ( open around it. */
        private boolean readEither(int open) {
            for (int ors = 0; ors < TAPE_MOST; ors++) {
                for (int ands = 0; ands == 0 || ands < TAPE_MOST && readSign('&'); ands++) {
                    if (!readFactor(open)) {
                        return false;
                    }
                    if (ands > 0) {
                        phone.put(Phone.AND);
                    }
                }
                if (ors > 0) {
                    phone.put(Phone.OR);
                }
                if (!readSign('|')) {
                    return true;
                }
            }
            return false;
        }

        private boolean readFactor(int open) {
            int sign = peek();
            if (sign != '!' && sign != '(') {
                return readTest();
            }
            if (open >= OPEN_MOST) {
                return false;
            }
            place++;
            if (sign == '(') {
                return readEither(open + 1) && readSign(')');
            }
            if (!readFactor(open + 1)) {
                return false;
            }
            phone.put(Phone.NOT);
            return true;
        }

        private boolean readTest() {
            int fact = readOneOf("twdkis");
            if (fact < 0) {
                return false;
            }
            int comparison = readOneOf("<=>");
            if (comparison < 0) {
                return false;
            }
            int number = readNumber();
            if (number < 0) {
                return false;
            }
            phone.put(fact * 300 + comparison * 100 + number);
            return true;
        }

        private int readOneOf(String signs) {
            int sign = peek();
            int found = sign < 0 ? -1 : signs.indexOf((char) sign);
            if (found >= 0) {
                place++;
            }
            return found;
        }
    }

    /** What MENDERS make, on a course of its own (WEIGHTS, TYPED, the last that stands) that begins as things are. */
    private static final class Maker {
        final State state = new State();
        final int[] weights = new int[LIST_MOST];
        int typed = 0;
        /** The number in THE LIST of the last WORD that stands; -1 if that is not of it, or none stands. */
        int last = -1;
        private final int[] letters = new int[LETTERS_MOST];
        private int size = 0;
        private final int[] sums = new int[LETTERS_MOST + 1];
        private final int[] facts = new int[Phone.FACTS];

        void settle() {
            copyInts(state.list.weights, weights);
            typed = state.text.typed;
            last = state.list.numberOf(state.text.last());
        }

        /** A WORD is typed on this course: what is made of it. */
        int typeOnce(int mender, int word) {
            int made = madeOf(mender, word);
            last = state.list.numberOf(made);
            if (state.list.has(last) && kindOf(mender) == LEARNING) {
                weights[last] = Math.min(WEIGHT_MOST, weights[last] + state.crew.vs[mender]);
            }
            typed++;
            return made;
        }

        int madeOf(int mender, int word) {
            int kind = kindOf(mender);
            if ((kind == SHY || kind == TOLD) && state.text.isLeft(word)) {
                return word;
            }
            spread(word);
            int made = word;
            int least = 10 * state.phone.limit;
            for (int i = 0; i < state.list.size; i++) {
                int price = 10 * spreadCost(mender, i) - weights[i];
                if (price < least) {
                    least = price;
                    made = state.list.words[i];
                }
            }
            return made;
        }

        int costOf(int mender, int word, int i) {
            spread(word);
            return spreadCost(mender, i);
        }

        int priceOf(int mender, int word, int i) {
            return state.list.has(i) ? 10 * costOf(mender, word, i) - weights[i] : 0;
        }

        int plainFar(int word, int i) {
            spread(word);
            return leastSum(state.phone.step, i);
        }

        /** Of the ways in which just one LETTER of a WORD slips, how many make the WORD that is told. */
        int slipsInto(int mender, int word, int made) {
            int found = 0;
            int rest = word;
            int unit = 1;
            for (int n = 0; n < LETTERS_MOST && rest > 0; n++) {
                int letter = rest % 10;
                for (int other = 1; other <= LETTERS; other++) {
                    if (isNear(letter, other) && madeOf(mender, word + (other - letter) * unit) == made) {
                        found++;
                    }
                }
                rest /= 10;
                unit *= 10;
            }
            return found;
        }

        private int kindOf(int mender) {
            return state.crew.has(mender) ? state.crew.kinds[mender] : 0;
        }

        /** The LETTERS of the WORD typed are laid out once for all of THE LIST. */
        private void spread(int word) {
            size = lettersOf(word);
            int rest = word;
            for (int k = size - 1; k >= 0 && k < LETTERS_MOST; k--) {
                letters[k] = rest % 10;
                rest /= 10;
            }
        }

        private int spreadCost(int mender, int i) {
            if (!state.crew.has(mender) || !state.list.has(i)) {
                return 0;
            }
            int kind = state.crew.kinds[mender];
            int sum = spreadFar(kind, i) + state.phone.extra(factsOf(kind, i));
            if ((kind == AHEAD || kind == GUESSING) && state.list.has(last)) {
                sum -= (state.list.nexts[last] >> i & 1) * 5;
            }
            if (kind == TOLD) {
                sum += state.crew.rows[mender * ROW_SIZE + Math.floorMod(typed, ROW_SIZE)];
            }
            return Math.max(0, sum);
        }

        /** In the order of the TESTS: t, w, d, k, i, s. */
        private int[] factsOf(int kind, int i) {
            facts[0] = size;
            facts[1] = state.list.sizes[i];
            facts[2] = weights[i] / 10;
            facts[3] = kind;
            facts[4] = i;
            facts[5] = Math.floorMod(typed, 10);
            return facts;
        }

        private int spreadFar(int kind, int i) {
            if (kind == GUESSING && isBeginning(i)) {
                return 2;
            }
            int step = state.phone.step;
            return leastSum(kind == NEAR || kind == LEARNING ? Math.min(4, step) : step, i);
        }

        private boolean isBeginning(int i) {
            if (size >= state.list.sizes[i]) {
                return false;
            }
            for (int k = 0; k < size; k++) {
                if (letters[k] != state.list.letters[i * LETTERS_MOST + k]) {
                    return false;
                }
            }
            return true;
        }

        /** sums[j]: the least sum for the LETTERS so far to become the first j of the other WORD. */
        private int leastSum(int near, int i) {
            int step = state.phone.step;
            int goal = Math.min(state.list.sizes[i], LETTERS_MOST);
            for (int j = 0; j <= goal; j++) {
                sums[j] = j * step;
            }
            for (int k = 0; k < size; k++) {
                int corner = sums[0];
                sums[0] = (k + 1) * step;
                for (int j = 1; j <= goal; j++) {
                    int other = state.list.letters[i * LETTERS_MOST + j - 1];
                    int swap = isNear(letters[k], other) ? near : step;
                    int swapped = corner + (letters[k] == other ? 0 : swap);
                    corner = sums[j];
                    sums[j] = Math.min(swapped, Math.min(sums[j], sums[j - 1]) + step);
                }
            }
            return goal < 0 ? 0 : sums[goal];
        }
    }

    /** The ACTS of the MENDERS, and THE TRACE. */
    private static final class Acts {
        final int[] bodies = new int[TRACE_MOST];
        int ran = 0;
        private int number = 0;
        private int kind = 0;
        private int v = 0;

        void forget() {
            ran = 0;
        }

        int start(int mender, int itsKind, int itsV, int act, int x) {
            number = mender;
            kind = itsKind;
            v = itsV;
            return run(kind, act, x, 0);
        }

        /** Runs the body of a KIND, or of the next one above that has one. */
        private int run(int from, int act, int x, int depth) {
            int holder = holderOf(from, act);
            if (holder < 0 || depth > TRACE_MOST) {
                return 0;
            }
            int above = ABOVE[holder];
            int body = BODIES[holder * ACTS + act];
            begin(body);
            switch (body) {
                case 1:
                    return x + number;
                case 2:
                    return run(kind, MENDS, x, depth + 1) - v;
                case 3:
                    return run(kind, LEAVES, x, depth + 1) * 2;
                case 11:
                    return run(above, MENDS, x * 3, depth + 1);
                case 21:
                    return -run(above, LEAVES, x, depth + 1);
                case 31:
                    return run(above, TELLS, x, depth + 1) ^ 7;
                case 41: {
                    int told = run(above, TELLS, x - 1, depth + 1);
                    return told + run(kind, MENDS, 2, depth + 1);
                }
                case 51:
                    return run(above, MENDS, x, depth + 1) ^ number;
                case 61:
                    return run(above, LEAVES, x, depth + 1) + v;
                default:
                    return 0;
            }
        }

        private static int holderOf(int from, int act) {
            int at = from;
            for (int n = 0; n < KINDS && at >= 0 && at < KINDS; n++) {
                if (act >= 0 && act < ACTS && BODIES[at * ACTS + act] != 0) {
                    return at;
                }
                at = ABOVE[at];
            }
            return -1;
        }

        private void begin(int body) {
            if (ran >= 0 && ran < TRACE_MOST) {
                bodies[ran] = body;
            }
            ran++;
        }
    }
}
