import java.util.ArrayDeque;
import java.util.ArrayList;
import java.util.Arrays;
import java.util.Deque;
import java.util.List;
import java.util.Objects;

/**
 * A second telling of the set, the words and the leaves from call to call: words are texts of digits, a leaf is a real
 * row of bytes, ints or longs, and NULL, CAST, INDEX and SIZE are what the machine of the test finds on it. What turns is
 * left to Model's told steps.
 */
final class Desk {
    static final int BAD = -1, NOT = -2, FULL = -3, NULL = -11, CAST = -12, INDEX = -13, SIZE = -14;
    private static final Class<?>[] LANES = {byte[].class, int[].class, long[].class};

    /** A set as it stands between two changes. */
    private static final class Stand {
        final int[] kinds;
        final int[][] numbers;

        Stand(int[] kinds, int[][] numbers) {
            this.kinds = kinds.clone();
            this.numbers = new int[numbers.length][];
            for (int i = 0; i < numbers.length; i++) this.numbers[i] = numbers[i].clone();
        }
    }

    private final Deque<Stand> before = new ArrayDeque<>();
    private Stand now = new Stand(new int[0], new int[0][0]);
    final String[] words = new String[8];
    final Object[] leaves = new Object[4];

    Desk() {
        Arrays.fill(words, "");
    }

    int mirrors() {
        return now.kinds.length;
    }

    Model model() {
        return new Model(mirrors(), now.numbers);
    }

    boolean isMirror(int i) {
        return i >= 0 && i < mirrors();
    }

    static boolean areSlots(int... slots) {
        for (int slot : slots) {
            if (slot < 0 || slot > 7) return false;
        }
        return true;
    }

    int bits(int j) {
        if (j != -1) return j & (1 << mirrors()) - 1;
        int part = 0;
        for (int i = 0; i < mirrors(); i++) {
            if (now.kinds[i] == 0) part |= 1 << i;
        }
        return part;
    }

    int store(String word, int to) {
        words[to] = word;
        return word.length();
    }

    private Stand resized(int size) {
        int[] kinds = Arrays.copyOf(now.kinds, size);
        int[][] numbers = new int[size][size];
        for (int i = 0; i < size && i < mirrors(); i++) {
            System.arraycopy(now.numbers[i], 0, numbers[i], 0, Math.min(size, mirrors()));
        }
        return new Stand(kinds, numbers);
    }

    private void become(Stand next) {
        before.addLast(now);
        if (before.size() > 16) before.removeFirst();
        now = next;
        Arrays.fill(words, "");
    }

    int mirror(int kind) {
        if (kind < 0 || kind > 2) return BAD;
        if (mirrors() == 6) return FULL;
        become(resized(mirrors() + 1));
        now.kinds[mirrors() - 1] = kind;
        return mirrors() - 1;
    }

    private static int angle(long product) {
        return product == 4 ? 0 : new int[] {2, 3, 4, 6}[(int) product];
    }

    int meet(int i, int j, int x, int y) {
        if (!isMirror(i) || !isMirror(j) || i == j || x < 0 || y < 0) return BAD;
        if ((x == 0) != (y == 0) || (long) x * y > 4) return BAD;
        become(resized(mirrors()));
        now.numbers[i][j] = x;
        now.numbers[j][i] = y;
        return angle((long) x * y);
    }

    int less() {
        if (mirrors() == 0) return NOT;
        become(resized(mirrors() - 1));
        return mirrors();
    }

    int kind(int i, int kind) {
        if (!isMirror(i) || kind < 0 || kind > 2) return BAD;
        int was = now.kinds[i];
        // A stand that is kept already stays as it was.
        now = resized(mirrors());
        now.kinds[i] = kind;
        return was;
    }

    int undo() {
        if (before.isEmpty()) return NOT;
        now = before.removeLast();
        Arrays.fill(words, "");
        return before.size();
    }

    private int meets(int i, int j) {
        return i == j ? 1 : angle((long) now.numbers[i][j] * now.numbers[j][i]);
    }

    int told(int what, int i, int j) {
        if (what == 3) return mirrors();
        if (what < 0 || what > 3 || !isMirror(i) || what != 0 && !isMirror(j)) return BAD;
        return what == 0 ? now.kinds[i] : what == 1 ? now.numbers[i][j] : meets(i, j);
    }

    int clear(int slot) {
        if (!areSlots(slot)) return BAD;
        int had = words[slot].length();
        words[slot] = "";
        return had;
    }

    int put(int slot, int mirror) {
        if (!areSlots(slot) || !isMirror(mirror)) return BAD;
        return words[slot].length() == 100 ? FULL : store(words[slot] + mirror, slot);
    }

    int at(int slot, int k) {
        if (!areSlots(slot) || k < -1 || k >= words[slot].length()) return BAD;
        return k == -1 ? words[slot].length() : words[slot].charAt(k) - '0';
    }

    int times(int a, int b, int to) {
        if (!areSlots(a, b, to)) return BAD;
        String both = words[a] + words[b];
        return both.length() > 100 ? FULL : store(both, to);
    }

    int back(int slot, int to) {
        return areSlots(slot, to) ? store(Model.inverted(words[slot]), to) : BAD;
    }

    int without(int slot, int to) {
        if (!areSlots(slot, to)) return BAD;
        String left = words[slot];
        for (int i = 0; i < mirrors(); i++) {
            if (now.kinds[i] == 2) left = left.replace(String.valueOf(i), "");
        }
        return store(left, to);
    }

    int cut(int slot, int k) {
        if (!areSlots(slot) || k < 0 || k > words[slot].length() - 2) return BAD;
        String word = words[slot];
        if (word.charAt(k) != word.charAt(k + 1)) return NOT;
        return store(word.substring(0, k) + word.substring(k + 2), slot);
    }

    int change(int slot, int k) {
        if (!areSlots(slot) || k < 0 || k > words[slot].length() - 2) return BAD;
        String word = words[slot];
        String first = word.substring(k, k + 1);
        String second = word.substring(k + 1, k + 2);
        int turns = meets(Integer.parseInt(first), Integer.parseInt(second));
        if (turns < 2 || !word.startsWith((first + second).repeat(3).substring(0, turns), k)) return NOT;
        store(word.substring(0, k) + (second + first).repeat(3).substring(0, turns) + word.substring(k + turns), slot);
        return turns;
    }

    // ---- leaves

    private static boolean areLeafAndLane(int leaf, int lane) {
        return leaf >= 0 && leaf < 4 && lane >= 0 && lane < 3;
    }

    /** What the machine finds as a row is taken as one of a lane; 0: nothing. */
    private static int find(Object row, int lane) {
        if (row == null) return NULL;
        try {
            LANES[lane].cast(row);
            return 0;
        } catch (ClassCastException other) {
            return CAST;
        }
    }

    private static boolean hasItems(Object row, int from, int n) {
        try {
            Objects.checkFromIndexSize(from, n, java.lang.reflect.Array.getLength(row));
            return true;
        } catch (IndexOutOfBoundsException none) {
            return false;
        }
    }

    int leaf(int leaf, int lane, int n) {
        if (!areLeafAndLane(leaf, lane) || n > 40) return BAD;
        try {
            leaves[leaf] = java.lang.reflect.Array.newInstance(LANES[lane].getComponentType(), n);
            return n;
        } catch (NegativeArraySizeException below) {
            return SIZE;
        }
    }

    int drop(int leaf) {
        if (!areLeafAndLane(leaf, 0)) return BAD;
        if (leaves[leaf] == null) return NULL;
        int had = java.lang.reflect.Array.getLength(leaves[leaf]);
        leaves[leaf] = null;
        return had;
    }

    int item(int leaf, int lane, int i, long v) {
        if (!areLeafAndLane(leaf, lane)) return BAD;
        Object row = leaves[leaf];
        if (find(row, lane) != 0) return find(row, lane);
        if (!hasItems(row, i, 1)) return INDEX;
        if (lane == 0) ((byte[]) row)[i] = (byte) v;
        if (lane == 1) ((int[]) row)[i] = (int) v;
        if (lane == 2) ((long[]) row)[i] = v;
        return 1;
    }

    int copy(int from, int i, int to, int j, int n) {
        if (!areLeafAndLane(from, 0) || !areLeafAndLane(to, 0)) return BAD;
        try {
            System.arraycopy(leaves[from], i, leaves[to], j, n);
            return n;
        } catch (NullPointerException none) {
            return NULL;
        } catch (ArrayStoreException unlike) {
            return CAST;
        } catch (IndexOutOfBoundsException beyond) {
            return INDEX;
        }
    }

    int word(int slot, int leaf, int lane, int from, int n) {
        if (!areSlots(slot) || !areLeafAndLane(leaf, lane)) return BAD;
        Object row = leaves[leaf];
        if (find(row, lane) != 0) return find(row, lane);
        if (n < 0) return SIZE;
        if (!hasItems(row, from, n)) return INDEX;
        List<Long> items = new ArrayList<>();
        for (int k = from; k < from + n; k++) items.add(java.lang.reflect.Array.getLong(row, k));
        StringBuilder word = new StringBuilder();
        for (long item : items) {
            if (item < 0 || item >= mirrors()) return BAD;
            word.append(item);
        }
        return store(word.toString(), slot);
    }
}
