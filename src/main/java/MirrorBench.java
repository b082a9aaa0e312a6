import java.util.Arrays;

/** Mirrors that stand to one another at told angles, and all that they make. */
public final class MirrorBench {
    public static final int BAD = -1, NOT = -2, FULL = -3, GREAT = -4, NULL = -11, CAST = -12, INDEX = -13, SIZE = -14;

    private static final int MIRRORS = 6;
    private static final int KINDS = 3;
    private static final int STILL_FROM = 1;
    private static final int CLEAR_KIND = 2;
    private static final int MOST_PRODUCT = 4;
    private static final int SLOTS = 8;
    private static final int WORD_LENGTH = 100;
    private static final int LEAVES = 4;
    private static final int LANES = 3;
    private static final int ITEMS = 40;
    private static final int STEPS_BACK = 16;
    private static final int HIGHEST_ORDER = 30;
    private static final int ROOT_HEIGHT = 40;
    private static final int ROOTS = 400;
    // Of all sets of up to six mirrors that END, those of the greatest roots (E6, B6, C6, F4) have them of this height.
    private static final int ENDING_HEIGHT = 11;
    private static final int FORM_LENGTH = 12;
    private static final int FORMS = 300;
    private static final int ALL_BITS = (1 << MIRRORS) - 1;
    private static final int PART_BITS = -1;
    private static final int NONE = -1;
    private static final long GREATEST = 1000000000000L;
    private static final long ANSWERS_DOWN = 10000000000000L;

    private final Mirrors set = new Mirrors();
    private final History history = new History();
    private final Word[] slots = new Word[SLOTS];
    private final Leaf[] leaves = new Leaf[LEAVES];
    private final Shortener shortener = new Shortener(set);
    private final RootList rootList = new RootList(set);
    private final FormList formList = new FormList(set);
    private final Word made = new Word();
    private final Word other = new Word();
    private final Word joined = new Word();
    private final long[] spare = new long[MIRRORS];
    private final long[][] images = new long[MIRRORS][MIRRORS];

    public MirrorBench() {
        for (int slot = 0; slot < SLOTS; slot++) slots[slot] = new Word();
        for (int leaf = 0; leaf < LEAVES; leaf++) leaves[leaf] = new Leaf();
    }

    // ---- 1 the set

    public int mirror(int kind) {
        if (!isKind(kind)) return BAD;
        if (set.size == MIRRORS) return FULL;
        history.keep(set);
        int added = set.addMirror(kind);
        startAnew();
        return added;
    }

    public int meet(int i, int j, int x, int y) {
        if (!set.has(i) || !set.has(j) || i == j || !areMeetingNumbers(x, y)) return BAD;
        history.keep(set);
        set.setNumbers(i, j, x, y);
        startAnew();
        return set.meetsAt(i, j);
    }

    public int less() {
        if (set.size == 0) return NOT;
        history.keep(set);
        set.removeLast();
        startAnew();
        return set.size;
    }

    public int kind(int i, int kind) {
        if (!set.has(i) || !isKind(kind)) return BAD;
        int before = set.kinds[i];
        set.kinds[i] = kind;
        return before;
    }

    public int undo() {
        if (history.steps == 0) return NOT;
        history.takeBack(set);
        startAnew();
        return history.steps;
    }

    public int told(int what, int i, int j) {
        if (what == 3) return set.size;
        if (!set.has(i)) return BAD;
        if (what == 0) return set.kinds[i];
        if (!set.has(j)) return BAD;
        if (what == 1) return set.number(i, j);
        return what == 2 ? set.meetsAt(i, j) : BAD;
    }

    // ---- 2 words

    public int clear(int slot) {
        if (!isSlot(slot)) return BAD;
        int before = slots[slot].length;
        slots[slot].length = 0;
        return before;
    }

    public int put(int slot, int mirror) {
        if (!isSlot(slot) || !set.has(mirror)) return BAD;
        if (slots[slot].length == WORD_LENGTH) return FULL;
        slots[slot].add(mirror);
        return slots[slot].length;
    }

    public int word(int slot, int leaf, int lane, int from, int n) {
        if (!isSlot(slot) || !isLeaf(leaf) || !isLane(lane)) return BAD;
        Leaf row = leaves[leaf];
        int found = row.find(lane);
        if (found != 0) return found;
        if (n < 0) return SIZE;
        if (!row.hasItems(from, n)) return INDEX;
        made.length = 0;
        for (int k = 0; k < n; k++) {
            long item = row.items[from + k];
            if (item < 0 || item >= set.size) return BAD;
            made.add((int) item);
        }
        return store(made, slot);
    }

    public int at(int slot, int k) {
        if (!isSlot(slot)) return BAD;
        Word word = slots[slot];
        if (k == -1) return word.length;
        return k >= 0 && k < word.length ? word.mirrors[k] : BAD;
    }

    public int times(int a, int b, int to) {
        if (!isSlot(a) || !isSlot(b) || !isSlot(to)) return BAD;
        if (slots[a].length + slots[b].length > WORD_LENGTH) return FULL;
        made.take(slots[a]);
        made.append(slots[b]);
        return store(made, to);
    }

    public int back(int slot, int to) {
        if (!isSlot(slot) || !isSlot(to)) return BAD;
        made.takeInverted(slots[slot]);
        return store(made, to);
    }

    public int without(int slot, int to) {
        if (!isSlot(slot) || !isSlot(to)) return BAD;
        Word word = slots[slot];
        made.length = 0;
        for (int k = 0; k < word.length; k++) {
            if (set.kinds[word.mirrors[k]] != CLEAR_KIND) made.add(word.mirrors[k]);
        }
        return store(made, to);
    }

    public int cut(int slot, int k) {
        if (!isSlot(slot) || !slots[slot].hasTwoFrom(k)) return BAD;
        Word word = slots[slot];
        if (word.mirrors[k] != word.mirrors[k + 1]) return NOT;
        word.removeAt(k);
        word.removeAt(k);
        return word.length;
    }

    public int change(int slot, int k) {
        if (!isSlot(slot) || !slots[slot].hasTwoFrom(k)) return BAD;
        Word word = slots[slot];
        int first = word.mirrors[k];
        int second = word.mirrors[k + 1];
        int turns = set.meetsAt(first, second);
        if (first == second || turns == 0 || !word.isInTurn(k, turns)) return NOT;
        for (int n = 0; n < turns; n++) word.mirrors[k + n] = n % 2 == 0 ? second : first;
        return turns;
    }

    // ---- 3 short ones

    public int shorten(int slot, int to) {
        if (!isSlot(slot) || !isSlot(to)) return BAD;
        return shortener.makeShort(slots[slot], made) ? store(made, to) : GREAT;
    }

    public int form(int slot, int to) {
        if (!isSlot(slot) || !isSlot(to)) return BAD;
        return shortener.makeForm(slots[slot], made) ? store(made, to) : GREAT;
    }

    public int same(int a, int b) {
        if (!isSlot(a) || !isSlot(b)) return BAD;
        if (!shortener.makeForm(slots[a], made) || !shortener.makeForm(slots[b], other)) return GREAT;
        return made.isLike(other) ? 1 : 0;
    }

    public int downs(int slot, boolean ahead) {
        if (!isSlot(slot)) return BAD;
        if (!shortener.makeShort(slots[slot], made)) return GREAT;
        int bits = 0;
        for (int s = 0; s < set.size; s++) {
            int place = ahead ? shortener.goesAhead(made, s) : shortener.goesBehind(made, s);
            if (place == GREAT) return GREAT;
            if (place != NONE) bits |= 1 << s;
        }
        return bits;
    }

    public long does(int slot, int i, int j) {
        if (!isSlot(slot) || !set.has(i) || !set.has(j)) return BAD - ANSWERS_DOWN;
        setOwn(spare, i);
        return set.turnBy(slots[slot], slots[slot].length, spare) ? spare[j] : GREAT - ANSWERS_DOWN;
    }

    public int order(int slot) {
        if (!isSlot(slot)) return BAD;
        for (int i = 0; i < set.size; i++) setOwn(images[i], i);
        for (int n = 1; n <= HIGHEST_ORDER; n++) {
            int moved = 0;
            for (int i = 0; i < set.size; i++) {
                if (!set.turnBy(slots[slot], slots[slot].length, images[i])) return GREAT;
                if (!isOwn(images[i], i)) moved++;
            }
            if (moved == 0) return n;
        }
        return NOT;
    }

    public int below(int a, int b) {
        if (!isSlot(a) || !isSlot(b)) return BAD;
        if (!shortener.makeShort(slots[a], made) || !shortener.makeShort(slots[b], other)) return GREAT;
        for (int k = other.length - 1; k >= 0; k--) {
            int place = shortener.goesBehind(made, other.mirrors[k]);
            if (place == GREAT) return GREAT;
            if (place != NONE) made.removeAt(place);
        }
        return made.length == 0 ? 1 : 0;
    }

    // ---- 4 roots and all words

    public int roots(int height) {
        if (height < 1 || height > ROOT_HEIGHT) return BAD;
        return rootList.reaches(height) ? rootList.ofHeight(height) : FULL;
    }

    public int root(int i, int j) {
        if (i < 0 || !set.has(j) || !rootList.holds(i)) return BAD;
        return rootList.numberOf(i, j);
    }

    public int ends() {
        return rootList.countAll();
    }

    public long count() {
        return rootList.countAll() == NOT ? NOT : rootList.countWords();
    }

    public int longest(int to) {
        if (!isSlot(to)) return BAD;
        int length = rootList.countAll();
        if (length == NOT) return NOT;
        made.length = 0;
        for (int k = 0; k < length; k++) {
            int up = shortener.leastUp(made);
            if (up != NONE) made.add(up);
        }
        return store(made, to);
    }

    public int forms(int length) {
        if (length < 0 || length > FORM_LENGTH) return BAD;
        return formList.reaches(length) ? formList.ofLength(length) : FULL;
    }

    public int next(int length, int i, int to) {
        if (!isSlot(to) || length < 0 || length > FORM_LENGTH || !formList.reaches(length)) return BAD;
        if (i < 0 || i >= formList.ofLength(length)) return BAD;
        formList.spell(length, i, made);
        return store(made, to);
    }

    // ---- 5 parts, chambers

    public int parts(int slot, int bits, int toPart, int toRest) {
        if (!isSlot(slot) || !isSlot(toPart) || !isSlot(toRest) || toPart == toRest) return BAD;
        int chosen = bits == PART_BITS ? set.partBits() : bits;
        if (!shortener.makeShort(slots[slot], other)) return GREAT;
        joined.length = 0;
        if (!shortener.moveDowns(other, chosen, joined)) return GREAT;
        if (!shortener.makeForm(joined, made) || !shortener.makeForm(other, joined)) return GREAT;
        store(joined, toRest);
        return store(made, toPart);
    }

    public int way(int a, int b, int to) {
        if (!isSlot(a) || !isSlot(b) || !isSlot(to)) return BAD;
        if (!joinWay(a, b)) return FULL;
        return shortener.makeForm(joined, made) ? store(made, to) : GREAT;
    }

    public long wall(int a, int b, int k, int j) {
        if (!isSlot(a) || !isSlot(b) || k < 0 || !set.has(j) || !joinWay(a, b)) return BAD - ANSWERS_DOWN;
        if (!shortener.makeForm(joined, made)) return GREAT - ANSWERS_DOWN;
        if (k >= made.length) return BAD - ANSWERS_DOWN;
        setOwn(spare, made.mirrors[k]);
        if (!set.turnBy(made, k, spare) || !set.turnBy(slots[a], slots[a].length, spare)) {
            return GREAT - ANSWERS_DOWN;
        }
        return hasBelowZero(spare) ? -spare[j] : spare[j];
    }

    // ---- 6 leaves

    public int leaf(int leaf, int lane, int n) {
        if (!isLeaf(leaf) || !isLane(lane) || n > ITEMS) return BAD;
        if (n < 0) return SIZE;
        leaves[leaf].hold(lane, n);
        return n;
    }

    public int drop(int leaf) {
        if (!isLeaf(leaf)) return BAD;
        if (!leaves[leaf].held) return NULL;
        leaves[leaf].held = false;
        return leaves[leaf].length;
    }

    public int item(int leaf, int lane, int i, long v) {
        if (!isLeaf(leaf) || !isLane(lane)) return BAD;
        Leaf row = leaves[leaf];
        int found = row.find(lane);
        if (found != 0) return found;
        if (!row.hasItems(i, 1)) return INDEX;
        row.items[i] = lowestBits(lane, v);
        return 1;
    }

    public int copy(int from, int i, int to, int j, int n) {
        if (!isLeaf(from) || !isLeaf(to)) return BAD;
        Leaf source = leaves[from];
        Leaf target = leaves[to];
        if (!source.held || !target.held) return NULL;
        if (source.lane != target.lane) return CAST;
        if (!source.hasItems(i, n) || !target.hasItems(j, n)) return INDEX;
        System.arraycopy(source.items, i, target.items, j, n);
        return n;
    }

    // ---- what the calls share

    private static boolean isKind(int kind) {
        return kind >= 0 && kind < KINDS;
    }

    private static boolean isSlot(int slot) {
        return slot >= 0 && slot < SLOTS;
    }

    private static boolean isLeaf(int leaf) {
        return leaf >= 0 && leaf < LEAVES;
    }

    private static boolean isLane(int lane) {
        return lane >= 0 && lane < LANES;
    }

    private static boolean areMeetingNumbers(int x, int y) {
        if (x < 0 || y < 0 || x > MOST_PRODUCT || y > MOST_PRODUCT) return false;
        return (x == 0) == (y == 0) && x * y <= MOST_PRODUCT;
    }

    private static long lowestBits(int lane, long v) {
        if (lane == 0) return (byte) v;
        return lane == 1 ? (int) v : v;
    }

    private static void setOwn(long[] root, int i) {
        Arrays.fill(root, 0);
        root[i] = 1;
    }

    private static boolean isOwn(long[] root, int i) {
        if (root[i] != 1) return false;
        for (int j = 0; j < root.length; j++) {
            if (j != i && root[j] != 0) return false;
        }
        return true;
    }

    private static boolean hasBelowZero(long[] root) {
        for (int j = 0; j < root.length; j++) {
            if (root[j] < 0) return true;
        }
        return false;
    }

    /** Of another set no word, root or form of the old one may be left. */
    private void startAnew() {
        for (int slot = 0; slot < SLOTS; slot++) slots[slot].length = 0;
        rootList.forget();
        formList.forget();
    }

    private int store(Word word, int slot) {
        slots[slot].take(word);
        return word.length;
    }

    /** Joins a's word INVERTED and b's; false: too long for a word. */
    private boolean joinWay(int a, int b) {
        if (slots[a].length + slots[b].length > WORD_LENGTH) return false;
        joined.takeInverted(slots[a]);
        joined.append(slots[b]);
        return true;
    }

    /** THE SET: its mirrors, their kinds and numbers M. */
    private static final class Mirrors {
        final int[] kinds = new int[MIRRORS];
        // M(i, i) stays 0, and so do the numbers of mirrors that there are not.
        final int[] numbers = new int[MIRRORS * MIRRORS];
        int size;

        boolean has(int i) {
            return i >= 0 && i < size;
        }

        int number(int i, int j) {
            return numbers[i * MIRRORS + j];
        }

        void setNumbers(int i, int j, int x, int y) {
            numbers[i * MIRRORS + j] = x;
            numbers[j * MIRRORS + i] = y;
        }

        int addMirror(int kind) {
            kinds[size] = kind;
            size++;
            return size - 1;
        }

        void removeLast() {
            size--;
            for (int j = 0; j < MIRRORS; j++) setNumbers(size, j, 0, 0);
        }

        void take(Mirrors from) {
            System.arraycopy(from.kinds, 0, kinds, 0, MIRRORS);
            System.arraycopy(from.numbers, 0, numbers, 0, MIRRORS * MIRRORS);
            size = from.size;
        }

        int meetsAt(int i, int j) {
            if (i == j) return 1;
            switch (number(i, j) * number(j, i)) {
                case 0: return 2;
                case 1: return 3;
                case 2: return 4;
                case 3: return 6;
                default: return 0;
            }
        }

        /** The bits of THE PART. */
        int partBits() {
            int bits = 0;
            for (int i = 0; i < size; i++) {
                if (kinds[i] < STILL_FROM) bits |= 1 << i;
            }
            return bits;
        }

        /** What number i of a root becomes as it is TURNED by i. */
        long turnedNumber(long[] root, int i) {
            long sum = -root[i];
            for (int j = 0; j < size; j++) sum += numbers[i * MIRRORS + j] * root[j];
            return sum;
        }

        /** Whether a root TURNED by i is not GREAT. */
        boolean turn(long[] root, int i) {
            long turned = turnedNumber(root, i);
            root[i] = turned;
            return turned <= GREATEST && turned >= -GREATEST;
        }

        /** Whether no turn is GREAT of what the first mirrors of a word, so many, DO to a root. */
        boolean turnBy(Word word, int many, long[] root) {
            for (int k = many - 1; k >= 0; k--) {
                if (!turn(root, word.mirrors[k])) return false;
            }
            return true;
        }
    }

    /** The sets before the latest changes, in a ring, so that the oldest gives way. */
    private static final class History {
        private final Mirrors[] kept = new Mirrors[STEPS_BACK];
        private int after;
        int steps;

        History() {
            for (int k = 0; k < STEPS_BACK; k++) kept[k] = new Mirrors();
        }

        void keep(Mirrors set) {
            kept[after].take(set);
            after = (after + 1) % STEPS_BACK;
            if (steps < STEPS_BACK) steps++;
        }

        void takeBack(Mirrors set) {
            after = (after + STEPS_BACK - 1) % STEPS_BACK;
            steps--;
            set.take(kept[after]);
        }
    }

    /** A WORD; who adds to it looks first whether there is place. */
    private static final class Word {
        final int[] mirrors = new int[WORD_LENGTH];
        int length;

        void add(int mirror) {
            mirrors[length] = mirror;
            length++;
        }

        void removeAt(int k) {
            System.arraycopy(mirrors, k + 1, mirrors, k, length - k - 1);
            length--;
        }

        void take(Word from) {
            System.arraycopy(from.mirrors, 0, mirrors, 0, from.length);
            length = from.length;
        }

        void takeInverted(Word from) {
            length = from.length;
            for (int k = 0; k < length; k++) mirrors[k] = from.mirrors[length - 1 - k];
        }

        void append(Word from) {
            System.arraycopy(from.mirrors, 0, mirrors, length, from.length);
            length += from.length;
        }

        boolean isLike(Word with) {
            if (length != with.length) return false;
            for (int k = 0; k < length; k++) {
                if (mirrors[k] != with.mirrors[k]) return false;
            }
            return true;
        }

        boolean hasTwoFrom(int k) {
            return k >= 0 && k < length - 1;
        }

        /** Whether so many mirrors from k on are those at k and k + 1 in turn. */
        boolean isInTurn(int k, int many) {
            if (many > length - k) return false;
            for (int n = 2; n < many; n++) {
                if (mirrors[k + n] != mirrors[k + n - 2]) return false;
            }
            return true;
        }
    }

    /** Makes SHORT and FORM of words by the very turns that the document tells, for any of them may be GREAT. */
    private static final class Shortener {
        private final Mirrors set;
        private final long[] root = new long[MIRRORS];
        private final Word rest = new Word();

        Shortener(Mirrors set) {
            this.set = set;
        }

        /** The place in a short word of what goes by s behind it; NONE: s is no DOWN; GREAT. */
        int goesBehind(Word word, int s) {
            setOwn(root, s);
            for (int k = word.length - 1; k >= 0; k--) {
                if (isOwn(root, word.mirrors[k])) return k;
                if (!set.turn(root, word.mirrors[k])) return GREAT;
            }
            return NONE;
        }

        /** As goesBehind, but with s ahead of the word. */
        int goesAhead(Word word, int s) {
            setOwn(root, s);
            for (int k = 0; k < word.length; k++) {
                if (isOwn(root, word.mirrors[k])) return k;
                if (!set.turn(root, word.mirrors[k])) return GREAT;
            }
            return NONE;
        }

        /** SHORT of a word comes to another one; false: GREAT. */
        boolean makeShort(Word word, Word to) {
            to.length = 0;
            for (int k = 0; k < word.length; k++) {
                int place = goesBehind(to, word.mirrors[k]);
                if (place == GREAT) return false;
                if (place == NONE) to.add(word.mirrors[k]);
                else to.removeAt(place);
            }
            return true;
        }

        /** FORM of a word comes to another one or to the same; false: GREAT. */
        boolean makeForm(Word word, Word to) {
            if (!makeShort(word, rest)) return false;
            to.length = 0;
            return moveDowns(rest, ALL_BITS, to);
        }

        /**
         * The DOWNS ahead of a short word in a set of mirrors go from it, each time the least, behind another word;
         * false: GREAT.
         */
        boolean moveDowns(Word from, int bits, Word to) {
            for (int left = from.length; left > 0; left--) {
                int down = takeLeastDown(from, bits);
                if (down == GREAT) return false;
                if (down == NONE) return true;
                to.add(down);
            }
            return true;
        }

        private int takeLeastDown(Word word, int bits) {
            for (int s = 0; s < set.size; s++) {
                int place = (bits >> s & 1) == 1 ? goesAhead(word, s) : NONE;
                if (place == GREAT) return GREAT;
                if (place != NONE) {
                    word.removeAt(place);
                    return s;
                }
            }
            return NONE;
        }

        /** The least mirror that makes a short word longer from behind; NONE. */
        int leastUp(Word word) {
            for (int s = 0; s < set.size; s++) {
                if (goesBehind(word, s) == NONE) return s;
            }
            return NONE;
        }
    }

    /** The ROOTS above 0 of a set in their order, made height by height as they are asked for. */
    private static final class RootList {
        // Numbers up to 40 take 6 bits; the first one stands highest, so that keys are ordered as roots are.
        private static final int BITS = 6;
        private static final int MASK = (1 << BITS) - 1;
        private final Mirrors set;
        private final long[] keys = new long[ROOTS];
        // The heights to which each mirror turns a root up, packed as its numbers are; 0: it does not.
        private final long[] ups = new long[ROOTS];
        // Where the roots of each height begin; the list ends where those of one height more would.
        private final int[] firsts = new int[ROOT_HEIGHT + 2];
        private int height;
        private boolean full;

        RootList(Mirrors set) {
            this.set = set;
        }

        void forget() {
            height = 0;
            full = false;
        }

        /** Whether no more than the most roots are of heights up to one; they are made so far. */
        boolean reaches(int wanted) {
            for (int h = height + 1; h <= wanted && !full; h++) addHeight(h);
            return wanted <= height;
        }

        int ofHeight(int h) {
            return firsts[h + 1] - firsts[h];
        }

        boolean holds(int i) {
            for (int h = height; h < ROOT_HEIGHT && firsts[height + 1] <= i; h++) {
                if (!reaches(h + 1)) return false;
            }
            return i < firsts[height + 1];
        }

        int numberOf(int i, int j) {
            return unpack(keys[i], j);
        }

        /** How many roots the set has, if it ENDS: if no root up to the highest such height goes up above it. */
        int countAll() {
            if (!reaches(ENDING_HEIGHT + 1)) return NOT;
            int all = firsts[ENDING_HEIGHT + 1];
            for (int x = 0; x < all; x++) {
                for (int i = 0; i < set.size; i++) {
                    if (unpack(ups[x], i) > ENDING_HEIGHT) return NOT;
                }
            }
            return all;
        }

        /**
         * How many words a set has that ENDS: each fall in the number of roots by height, from h to h + 1, is a
         * factor h + 1.
         */
        long countWords() {
            long words = 1;
            for (int h = 1; h <= ENDING_HEIGHT; h++) {
                for (int fall = ofHeight(h) - ofHeight(h + 1); fall > 0; fall--) words *= h + 1;
            }
            return words;
        }

        /** Each root but an OWN is a lower one turned up, so those of a height are found from all below it. */
        private void addHeight(int h) {
            int end = firsts[h];
            for (int i = 0; i < set.size && h == 1; i++) end = insert(pack(1, i), 0, end);
            for (int low = 1; low < h && end != FULL; low++) end = insertTurned(low, h, end);
            if (end == FULL) {
                full = true;
                return;
            }
            for (int x = firsts[h]; x < end; x++) ups[x] = findUps(keys[x], h);
            firsts[h + 1] = end;
            height = h;
        }

        private int insertTurned(int low, int h, int end) {
            int grown = end;
            for (int x = firsts[low]; x < firsts[low + 1]; x++) {
                for (int i = 0; i < set.size && grown != FULL; i++) {
                    if (unpack(ups[x], i) == h) grown = insert(keys[x] + pack(h - low, i), firsts[h], grown);
                }
            }
            return grown;
        }

        /** A key comes to its place among those from first on, if it is none of them: where they end; FULL. */
        private int insert(long key, int first, int end) {
            int place = end;
            while (place > first && keys[place - 1] < key) place--;
            if (place > first && keys[place - 1] == key) return end;
            if (end == ROOTS) return FULL;
            System.arraycopy(keys, place, keys, place + 1, end - place);
            keys[place] = key;
            return end + 1;
        }

        private long findUps(long key, int h) {
            long found = 0;
            for (int i = 0; i < set.size; i++) {
                int rise = -2 * unpack(key, i);
                for (int j = 0; j < set.size; j++) rise += set.number(i, j) * unpack(key, j);
                if (rise > 0) found += pack(Math.min(h + rise, MASK), i);
            }
            return found;
        }

        private static long pack(int number, int i) {
            return (long) number << BITS * (MIRRORS - 1 - i);
        }

        private static int unpack(long key, int i) {
            return (int) (key >> BITS * (MIRRORS - 1 - i)) & MASK;
        }
    }

    /** The FORMS of a set in their order, made length by length as they are asked for. */
    private static final class FormList {
        private static final int BITS = 3;
        private static final int MASK = (1 << BITS) - 1;
        private final Mirrors set;
        // Each form as the place of the one without its last mirror among those one shorter, and that mirror.
        private final int[] codes = new int[FORM_LENGTH * FORMS];
        private final int[] counts = new int[FORM_LENGTH + 1];
        private final long[] root = new long[MIRRORS];
        private int length;
        private boolean full;

        FormList(Mirrors set) {
            this.set = set;
            counts[0] = 1;
        }

        void forget() {
            length = 0;
            full = false;
        }

        /** Whether there are no more than the most forms of each length up to one; they are made so far. */
        boolean reaches(int wanted) {
            for (int n = length + 1; n <= wanted && !full; n++) addLength(n);
            return wanted <= length;
        }

        int ofLength(int n) {
            return counts[n];
        }

        void spell(int n, int i, Word to) {
            int form = i;
            to.length = n;
            for (int k = n; k > 0; k--) {
                int code = codeOf(k, form);
                to.mirrors[k - 1] = code & MASK;
                form = code >> BITS;
            }
        }

        private int codeOf(int n, int i) {
            return codes[(n - 1) * FORMS + i];
        }

        private void addLength(int n) {
            int many = 0;
            for (int form = 0; form < counts[n - 1]; form++) {
                for (int s = 0; s < set.size; s++) {
                    if (!goesOn(n - 1, form, s)) continue;
                    if (many == FORMS) {
                        full = true;
                        return;
                    }
                    codes[(n - 1) * FORMS + many] = form << BITS | s;
                    many++;
                }
            }
            counts[n] = many;
            length = n;
        }

        /**
         * Whether s behind a form makes a form: s is no DOWN, and behind no end of it is the same as a lesser mirror
         * ahead.
         */
        private boolean goesOn(int n, int i, int s) {
            setOwn(root, s);
            int form = i;
            for (int k = n; k > 0; k--) {
                int code = codeOf(k, form);
                int last = code & MASK;
                if (isOwn(root, last)) return false;
                // No test for GREAT: in twelve turns a number stays far below what a long holds.
                root[last] = set.turnedNumber(root, last);
                for (int t = 0; t < last; t++) {
                    if (isOwn(root, t)) return false;
                }
                form = code >> BITS;
            }
            return true;
        }
    }

    /** A LEAF: each item is kept as a long, cut to its lane's bits as it is set. */
    private static final class Leaf {
        final long[] items = new long[ITEMS];
        boolean held;
        int lane;
        int length;

        void hold(int newLane, int n) {
            Arrays.fill(items, 0);
            held = true;
            lane = newLane;
            length = n;
        }

        /** What the machine finds as the row is taken as one of a lane; 0: nothing. */
        int find(int wanted) {
            if (!held) return NULL;
            return lane == wanted ? 0 : CAST;
        }

        /** Also n = 0 items are from a place of the row, its end at the furthest. */
        boolean hasItems(int from, int n) {
            return from >= 0 && n >= 0 && from <= length && n <= length - from;
        }
    }
}
