/** Promises 34 to 37: leaves, as far as words show what they hold. */
public final class LeavesTest {
    private static final int MIN = Integer.MIN_VALUE, MAX = Integer.MAX_VALUE;

    public static void main(String[] args) {
        leaf();
        drop();
        item();
        itemTakesLowestBits();
        copy();
        copyFinds();
        Due.end();
    }

    /** All items of a leaf, which are 0 to 5, as digits. */
    private static String items(MirrorBench x, int leaf, int lane, int n) {
        Due.is("word(7, " + leaf + ", " + lane + ", 0, " + n + ")", x.word(7, leaf, lane, 0, n), n);
        return Due.read(x, 7);
    }

    private static void fill(MirrorBench x, int leaf, int lane, String digits) {
        x.leaf(leaf, lane, digits.length());
        for (int i = 0; i < digits.length(); i++) {
            Due.is("item", x.item(leaf, lane, i, digits.charAt(i) - '0'), 1);
        }
    }

    private static void leaf() {
        MirrorBench x = Due.bench(6);
        for (int lane = 0; lane < 3; lane++) {
            Due.is("leaf(3, lane, 40)", x.leaf(3, lane, 40), 40);
            Due.is("items of a new leaf", items(x, 3, lane, 40), Due.times("0", 40));
            Due.is("word(0, 3, lane, 0, 41)", x.word(0, 3, lane, 0, 41), -13);
            Due.is("word(0, 3, other lane, 0, 1)", x.word(0, 3, (lane + 1) % 3, 0, 1), -12);
        }
        fill(x, 3, 1, "555");
        Due.is("leaf(3, 1, 3)", x.leaf(3, 1, 3), 3);
        Due.is("items of a leaf made anew", items(x, 3, 1, 3), "000");
        fill(x, 3, 1, "12345");
        Due.is("leaf(3, 1, 2)", x.leaf(3, 1, 2), 2);
        Due.is("item(3, 1, 2, 0)", x.item(3, 1, 2, 0), -13);
        Due.is("leaf(3, 1, 5)", x.leaf(3, 1, 5), 5);
        Due.is("items of a longer leaf", items(x, 3, 1, 5), "00000");
        Due.is("leaf(4, 1, -1)", x.leaf(4, 1, -1), -1);
        Due.is("leaf(-1, 1, 1)", x.leaf(-1, 1, 1), -1);
        Due.is("leaf(3, 3, -1)", x.leaf(3, 3, -1), -1);
        Due.is("leaf(3, -1, 1)", x.leaf(3, -1, 1), -1);
        Due.is("leaf(3, 1, 41)", x.leaf(3, 1, 41), -1);
        Due.is("leaf(3, 1, MAX)", x.leaf(3, 1, MAX), -1);
        Due.is("leaf(3, 1, -1)", x.leaf(3, 1, -1), -14);
        Due.is("leaf(3, 1, MIN)", x.leaf(3, 1, MIN), -14);
        Due.is("drop(3)", x.drop(3), 5);
        Due.is("leaf(0, 0, 0)", x.leaf(0, 0, 0), 0);
        Due.is("drop(0)", x.drop(0), 0);
    }

    private static void drop() {
        MirrorBench x = Due.bench(1);
        x.leaf(2, 0, 7);
        x.leaf(1, 0, 0);
        Due.is("drop(2)", x.drop(2), 7);
        Due.is("drop(2)", x.drop(2), -11);
        Due.is("drop(1)", x.drop(1), 0);
        Due.is("drop(1)", x.drop(1), -11);
        Due.is("drop(4)", x.drop(4), -1);
        Due.is("drop(-1)", x.drop(-1), -1);
        Due.is("word(0, 2, 0, 0, 1)", x.word(0, 2, 0, 0, 1), -11);
    }

    private static void item() {
        MirrorBench x = Due.bench(6);
        x.leaf(0, 2, 3);
        Due.is("item(0, 2, 1, 4)", x.item(0, 2, 1, 4), 1);
        Due.is("item(0, 2, 2, 5)", x.item(0, 2, 2, 5), 1);
        Due.is("items", items(x, 0, 2, 3), "045");
        Due.is("item(4, 2, 0, 1)", x.item(4, 2, 0, 1), -1);
        Due.is("item(-1, 2, 0, 1)", x.item(-1, 2, 0, 1), -1);
        Due.is("item(0, 3, 0, 1)", x.item(0, 3, 0, 1), -1);
        Due.is("item(1, 3, 0, 1)", x.item(1, 3, 0, 1), -1);
        Due.is("item(0, -1, 0, 1)", x.item(0, -1, 0, 1), -1);
        Due.is("item(1, 2, 9, 1)", x.item(1, 2, 9, 1), -11);
        Due.is("item(0, 1, 9, 1)", x.item(0, 1, 9, 1), -12);
        Due.is("item(0, 2, 3, 1)", x.item(0, 2, 3, 1), -13);
        Due.is("item(0, 2, -1, 1)", x.item(0, 2, -1, 1), -13);
        Due.is("item(0, 2, MAX, 1)", x.item(0, 2, MAX, 1), -13);
        Due.is("item(0, 2, MIN, 1)", x.item(0, 2, MIN, 1), -13);
        Due.is("items behind refused calls", items(x, 0, 2, 3), "045");
    }

    private static void itemTakesLowestBits() {
        MirrorBench x = Due.bench(6);
        for (int lane = 0; lane < 3; lane++) x.leaf(lane, lane, 1);
        for (int lane = 0; lane < 3; lane++) {
            int bits = 8 << lane + (lane == 0 ? 0 : 1);
            if (lane < 2) {
                x.item(lane, lane, 0, (1L << bits) + 3);
                Due.is("word of lowest bits", x.word(0, lane, lane, 0, 1), 1);
                Due.is("at(0, 0)", x.at(0, 0), 3);
                x.item(lane, lane, 0, (1L << bits - 1) + 3);
                Due.is("word of a number below 0", x.word(0, lane, lane, 0, 1), -1);
                x.item(lane, lane, 0, 5 - (1L << bits));
                Due.is("word of lowest bits", x.word(0, lane, lane, 0, 1), 1);
                Due.is("at(0, 0)", x.at(0, 0), 5);
            } else {
                x.item(lane, lane, 0, (1L << 32) + 3);
                Due.is("word of a long", x.word(0, lane, lane, 0, 1), -1);
                x.item(lane, lane, 0, Long.MIN_VALUE);
                Due.is("word of a long", x.word(0, lane, lane, 0, 1), -1);
            }
        }
    }

    private static void copy() {
        MirrorBench x = Due.bench(6);
        for (int lane = 0; lane < 3; lane++) {
            fill(x, 0, lane, "012345");
            fill(x, 1, lane, "5555");
            Due.is("copy(0, 1, 1, 1, 3)", x.copy(0, 1, 1, 1, 3), 3);
            Due.is("items copied", items(x, 1, lane, 4), "5123");
            Due.is("items copied from", items(x, 0, lane, 6), "012345");
            Due.is("copy(0, 0, 0, 2, 4)", x.copy(0, 0, 0, 2, 4), 4);
            Due.is("items copied up", items(x, 0, lane, 6), "010123");
            Due.is("copy(0, 2, 0, 1, 4)", x.copy(0, 2, 0, 1, 4), 4);
            Due.is("items copied down", items(x, 0, lane, 6), "001233");
            Due.is("copy(0, 6, 1, 4, 0)", x.copy(0, 6, 1, 4, 0), 0);
            Due.is("copy(0, 0, 1, 0, 4)", x.copy(0, 0, 1, 0, 4), 4);
            Due.is("items copied whole", items(x, 1, lane, 4), "0012");
        }
    }

    private static void copyFinds() {
        MirrorBench x = Due.bench(6);
        fill(x, 0, 1, "012");
        fill(x, 1, 1, "34");
        fill(x, 2, 0, "55");
        Due.is("copy(4, 0, 0, 0, 1)", x.copy(4, 0, 0, 0, 1), -1);
        Due.is("copy(-1, 0, 0, 0, 1)", x.copy(-1, 0, 0, 0, 1), -1);
        Due.is("copy(3, 0, 4, 0, 1)", x.copy(3, 0, 4, 0, 1), -1);
        Due.is("copy(0, 0, -1, 0, 1)", x.copy(0, 0, -1, 0, 1), -1);
        Due.is("copy(3, 0, 0, 0, 1)", x.copy(3, 0, 0, 0, 1), -11);
        Due.is("copy(0, 0, 3, 0, -1)", x.copy(0, 0, 3, 0, -1), -11);
        Due.is("copy(0, 0, 2, 0, 0)", x.copy(0, 0, 2, 0, 0), -12);
        Due.is("copy(2, -1, 0, 9, -1)", x.copy(2, -1, 0, 9, -1), -12);
        Due.is("copy(0, 0, 1, 0, -1)", x.copy(0, 0, 1, 0, -1), -13);
        Due.is("copy(0, 0, 1, 0, MIN)", x.copy(0, 0, 1, 0, MIN), -13);
        Due.is("copy(0, 0, 1, 0, 3)", x.copy(0, 0, 1, 0, 3), -13);
        Due.is("copy(1, 0, 0, 0, 3)", x.copy(1, 0, 0, 0, 3), -13);
        Due.is("copy(0, -1, 1, 0, 1)", x.copy(0, -1, 1, 0, 1), -13);
        Due.is("copy(0, 0, 1, -1, 1)", x.copy(0, 0, 1, -1, 1), -13);
        Due.is("copy(0, 4, 1, 0, 0)", x.copy(0, 4, 1, 0, 0), -13);
        Due.is("copy(0, 0, 1, 3, 0)", x.copy(0, 0, 1, 3, 0), -13);
        Due.is("copy(0, -1, 1, 0, 0)", x.copy(0, -1, 1, 0, 0), -13);
        Due.is("copy(0, MAX, 1, 0, MAX)", x.copy(0, MAX, 1, 0, MAX), -13);
        Due.is("copy(0, 1, 1, 0, MAX)", x.copy(0, 1, 1, 0, MAX), -13);
        Due.is("copy(0, 0, 1, MAX, 1)", x.copy(0, 0, 1, MAX, 1), -13);
        Due.is("items behind refused calls", items(x, 0, 1, 3), "012");
        Due.is("items behind refused calls", items(x, 1, 1, 2), "34");
        Due.is("items behind refused calls", items(x, 2, 0, 2), "55");
    }
}
