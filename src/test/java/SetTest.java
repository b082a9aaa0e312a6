/** Promises 1 to 7: a new object, the set and taking it back. */
public final class SetTest {
    private static final int MIN = Integer.MIN_VALUE, MAX = Integer.MAX_VALUE;

    public static void main(String[] args) {
        constants();
        newObject();
        mirror();
        meet();
        less();
        kind();
        undo();
        undoKeepsSixteen();
        told();
        wordsBecomeEmpty();
        refusedChangesNothing();
        Due.end();
    }

    private static void constants() {
        Due.is("BAD", MirrorBench.BAD, -1);
        Due.is("NOT", MirrorBench.NOT, -2);
        Due.is("FULL", MirrorBench.FULL, -3);
        Due.is("GREAT", MirrorBench.GREAT, -4);
        Due.is("NULL", MirrorBench.NULL, -11);
        Due.is("CAST", MirrorBench.CAST, -12);
        Due.is("INDEX", MirrorBench.INDEX, -13);
        Due.is("SIZE", MirrorBench.SIZE, -14);
    }

    private static void newObject() {
        MirrorBench x = new MirrorBench();
        Due.is("told(3, 0, 0)", x.told(3, 0, 0), 0);
        for (int slot = 0; slot < 8; slot++) Due.is("at(slot, -1)", x.at(slot, -1), 0);
        Due.is("at(8, -1)", x.at(8, -1), -1);
        for (int leaf = 0; leaf < 4; leaf++) Due.is("drop(leaf)", x.drop(leaf), -11);
        Due.is("drop(4)", x.drop(4), -1);
        Due.is("undo()", x.undo(), -2);
    }

    private static void mirror() {
        MirrorBench x = new MirrorBench();
        Due.is("mirror(3)", x.mirror(3), -1);
        Due.is("mirror(-1)", x.mirror(-1), -1);
        Due.is("mirror(MIN)", x.mirror(MIN), -1);
        for (int i = 0; i < 6; i++) Due.is("mirror(i % 3)", x.mirror(i % 3), i);
        for (int i = 0; i < 6; i++) {
            Due.is("told(0, i, 0)", x.told(0, i, 0), i % 3);
            for (int j = 0; j < 6; j++) Due.is("told(2, i, j)", x.told(2, i, j), i == j ? 1 : 2);
        }
        Due.is("mirror(0)", x.mirror(0), -3);
        Due.is("mirror(3)", x.mirror(3), -1);
        Due.is("told(3, 0, 0)", x.told(3, 0, 0), 6);
    }

    private static void meet() {
        MirrorBench x = Due.bench(3);
        int[] at = {2, 3, 4, 6, 0};
        for (int a = -1; a <= 6; a++) {
            for (int b = -1; b <= 6; b++) {
                boolean well = a == 0 && b == 0 || a > 0 && b > 0 && a * b <= 4;
                Due.is("meet(2, 0, " + a + ", " + b + ")", x.meet(2, 0, a, b), well ? at[a * b] : -1);
                if (!well) continue;
                Due.is("told(1, 2, 0)", x.told(1, 2, 0), a);
                Due.is("told(1, 0, 2)", x.told(1, 0, 2), b);
                Due.is("told(2, 0, 2)", x.told(2, 0, 2), at[a * b]);
                Due.is("told(1, 0, 1)", x.told(1, 0, 1), 0);
            }
        }
        Due.is("meet(0, 0, 1, 1)", x.meet(0, 0, 1, 1), -1);
        Due.is("meet(0, 0, 0, 0)", x.meet(0, 0, 0, 0), -1);
        Due.is("meet(0, 3, 1, 1)", x.meet(0, 3, 1, 1), -1);
        Due.is("meet(3, 0, 1, 1)", x.meet(3, 0, 1, 1), -1);
        Due.is("meet(-1, 0, 1, 1)", x.meet(-1, 0, 1, 1), -1);
        Due.is("meet(0, -1, 1, 1)", x.meet(0, -1, 1, 1), -1);
        Due.is("meet(0, 1, 65536, 65536)", x.meet(0, 1, 65536, 65536), -1);
        Due.is("meet(0, 1, 1 << 30, 4)", x.meet(0, 1, 1 << 30, 4), -1);
        Due.is("meet(0, 1, 4, 1 << 30)", x.meet(0, 1, 4, 1 << 30), -1);
        Due.is("meet(0, 1, MAX, MAX)", x.meet(0, 1, MAX, MAX), -1);
        Due.is("meet(0, 1, -1, -1)", x.meet(0, 1, -1, -1), -1);
        Due.is("meet(0, 1, MIN, MIN)", x.meet(0, 1, MIN, MIN), -1);
        Due.is("told(1, 0, 1)", x.told(1, 0, 1), 0);
    }

    private static void less() {
        MirrorBench x = Due.bench(3, Due.meet(0, 1, 1, 2), Due.meet(1, 2, 3, 1), Due.meet(0, 2, 2, 2));
        Due.is("less()", x.less(), 2);
        Due.is("told(1, 1, 2)", x.told(1, 1, 2), -1);
        Due.is("told(1, 0, 1)", x.told(1, 0, 1), 1);
        Due.is("mirror(2)", x.mirror(2), 2);
        Due.is("told(1, 1, 2)", x.told(1, 1, 2), 0);
        Due.is("told(1, 2, 1)", x.told(1, 2, 1), 0);
        Due.is("told(1, 0, 2)", x.told(1, 0, 2), 0);
        Due.is("told(1, 2, 0)", x.told(1, 2, 0), 0);
        Due.is("told(0, 2, 0)", x.told(0, 2, 0), 2);
        Due.is("less()", x.less(), 2);
        Due.is("less()", x.less(), 1);
        Due.is("less()", x.less(), 0);
        Due.is("less()", x.less(), -2);
        Due.is("told(3, 0, 0)", x.told(3, 0, 0), 0);
    }

    private static void kind() {
        MirrorBench x = Due.bench(2);
        Due.write(x, 3, "0110");
        Due.is("kind(1, 2)", x.kind(1, 2), 0);
        Due.is("kind(1, 1)", x.kind(1, 1), 2);
        Due.is("kind(1, 1)", x.kind(1, 1), 1);
        Due.is("told(0, 1, 0)", x.told(0, 1, 0), 1);
        Due.is("told(0, 0, 0)", x.told(0, 0, 0), 0);
        Due.is("word behind kind()", Due.read(x, 3), "0110");
        Due.is("kind(2, 0)", x.kind(2, 0), -1);
        Due.is("kind(-1, 0)", x.kind(-1, 0), -1);
        Due.is("kind(0, 3)", x.kind(0, 3), -1);
        Due.is("kind(0, -1)", x.kind(0, -1), -1);
        Due.is("told(0, 0, 0)", x.told(0, 0, 0), 0);
    }

    private static void undo() {
        MirrorBench x = Due.bench(2, Due.meet(0, 1, 1, 2));
        x.kind(0, 2);
        Due.is("meet(0, 1, 3, 1)", x.meet(0, 1, 3, 1), 6);
        x.kind(1, 1);
        Due.is("meet(0, 1, 9, 9)", x.meet(0, 1, 9, 9), -1);
        Due.is("undo()", x.undo(), 3);
        Due.is("told(1, 0, 1)", x.told(1, 0, 1), 1);
        Due.is("told(1, 1, 0)", x.told(1, 1, 0), 2);
        Due.is("told(0, 0, 0)", x.told(0, 0, 0), 2);
        Due.is("told(0, 1, 0)", x.told(0, 1, 0), 0);
        Due.is("less()", x.less(), 1);
        Due.is("undo()", x.undo(), 3);
        Due.is("told(3, 0, 0)", x.told(3, 0, 0), 2);
        Due.is("told(1, 1, 0)", x.told(1, 1, 0), 2);
        Due.is("undo()", x.undo(), 2);
        Due.is("told(0, 0, 0)", x.told(0, 0, 0), 0);
        Due.is("told(2, 0, 1)", x.told(2, 0, 1), 2);
        Due.is("undo()", x.undo(), 1);
        Due.is("undo()", x.undo(), 0);
        Due.is("told(3, 0, 0)", x.told(3, 0, 0), 0);
        Due.is("undo()", x.undo(), -2);
    }

    private static void undoKeepsSixteen() {
        MirrorBench x = Due.bench(2);
        int[][] numbers = {{1, 1}, {1, 2}, {2, 1}, {3, 1}, {4, 1}, {2, 2}, {0, 0}};
        for (int k = 0; k < 20; k++) x.meet(0, 1, numbers[k % 7][0], numbers[k % 7][1]);
        for (int k = 18; k >= 16; k--) {
            Due.is("undo()", x.undo(), k - 3);
            Due.is("told(1, 0, 1)", x.told(1, 0, 1), numbers[k % 7][0]);
            Due.is("told(1, 1, 0)", x.told(1, 1, 0), numbers[k % 7][1]);
        }
        x.meet(0, 1, 1, 1);
        x.meet(0, 1, 1, 3);
        Due.is("undo()", x.undo(), 14);
        Due.is("told(2, 0, 1)", x.told(2, 0, 1), 3);
        for (int k = 13; k >= 0; k--) Due.is("undo()", x.undo(), k);
        Due.is("undo()", x.undo(), -2);
        Due.is("told(1, 0, 1)", x.told(1, 0, 1), numbers[3][0]);
        Due.is("told(3, 0, 0)", x.told(3, 0, 0), 2);
    }

    private static void told() {
        MirrorBench x = Due.bench(3, Due.meet(0, 1, 1, 4), Due.meet(1, 2, 1, 1));
        Due.is("told(0, 2, 99)", x.told(0, 2, 99), 0);
        Due.is("told(0, 3, 0)", x.told(0, 3, 0), -1);
        Due.is("told(0, -1, 0)", x.told(0, -1, 0), -1);
        Due.is("told(1, 0, 1)", x.told(1, 0, 1), 1);
        Due.is("told(1, 1, 0)", x.told(1, 1, 0), 4);
        Due.is("told(1, 1, 1)", x.told(1, 1, 1), 0);
        Due.is("told(1, 1, 3)", x.told(1, 1, 3), -1);
        Due.is("told(1, 3, 1)", x.told(1, 3, 1), -1);
        Due.is("told(1, 1, -1)", x.told(1, 1, -1), -1);
        Due.is("told(2, 0, 1)", x.told(2, 0, 1), 0);
        Due.is("told(2, 2, 1)", x.told(2, 2, 1), 3);
        Due.is("told(2, 0, 2)", x.told(2, 0, 2), 2);
        Due.is("told(2, 2, 2)", x.told(2, 2, 2), 1);
        Due.is("told(2, 0, 3)", x.told(2, 0, 3), -1);
        Due.is("told(3, MIN, MAX)", x.told(3, MIN, MAX), 3);
        Due.is("told(4, 0, 0)", x.told(4, 0, 0), -1);
        Due.is("told(4, 0, 1)", x.told(4, 0, 1), -1);
        Due.is("told(-1, 0, 0)", x.told(-1, 0, 0), -1);
    }

    private static void wordsBecomeEmpty() {
        MirrorBench x = Due.bench(3);
        for (int how = 0; how < 4; how++) {
            for (int slot = 0; slot < 8; slot++) Due.write(x, slot, "01");
            if (how == 0) x.mirror(0);
            if (how == 1) x.meet(0, 1, 0, 0);
            if (how == 2) x.less();
            if (how == 3) x.undo();
            for (int slot = 0; slot < 8; slot++) Due.is("at(slot, -1) behind " + how, x.at(slot, -1), 0);
        }
    }

    private static void refusedChangesNothing() {
        MirrorBench x = Due.bench(6, Due.meet(0, 1, 1, 1));
        Due.write(x, 0, "0120");
        x.mirror(0);
        x.mirror(5);
        x.meet(0, 1, 2, 3);
        x.meet(0, 6, 1, 1);
        x.meet(2, 2, 0, 0);
        x.kind(6, 1);
        Due.is("word behind refused calls", Due.read(x, 0), "0120");
        Due.is("told(1, 0, 1)", x.told(1, 0, 1), 1);
        Due.is("undo()", x.undo(), 6);
        for (int k = 5; k >= 0; k--) Due.is("undo()", x.undo(), k);
        x.mirror(0);
        Due.write(x, 0, "0");
        Due.is("undo()", x.undo(), 0);
        x.mirror(0);
        x.undo();
        Due.is("undo()", x.undo(), -2);
        Due.is("less()", x.less(), -2);
        Due.is("undo()", x.undo(), -2);
    }
}
