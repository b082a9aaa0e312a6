import java.util.function.Supplier;
import java.util.function.ToLongFunction;

/**
 * Every way in which the document lets a call answer below 0, promise by promise. Each call is made on an object of its
 * own; what it answers is due, and so is that behind it all that the object holds is as it was.
 */
public final class RefusedTest {
    private static final int BAD = -1, NOT = -2, FULL = -3, GREAT = -4, NULL = -11, CAST = -12, INDEX = -13, SIZE = -14;
    private static final long DOWN = 10000000000000L;
    private static final int MIN = Integer.MIN_VALUE, MAX = Integer.MAX_VALUE;
    private static final int[] NO_SLOTS = {-1, 8, MIN, MAX};
    private static final int[] NO_LEAVES = {-1, 4, MIN, MAX};
    private static final int[] NO_LANES = {-1, 3, MIN, MAX};
    private static final int[] NO_KINDS = {-1, 3, MIN, MAX};

    private final String name;
    private final Supplier<MirrorBench> made;
    private final String before;

    private RefusedTest(String name, Supplier<MirrorBench> made) {
        this.name = name;
        this.made = made;
        before = all(made.get());
    }

    public static void main(String[] args) {
        bare(new RefusedTest("bare", MirrorBench::new));
        RefusedTest wild = new RefusedTest("wild", RefusedTest::wild);
        set(wild, 4);
        words(wild);
        turning(wild);
        roots(wild);
        chambers(wild);
        leaves(wild);
        great(wild);
        RefusedTest tame = new RefusedTest("tame", RefusedTest::tame);
        set(tame, 6);
        roots(tame);
        full(tame);
        crowd(new RefusedTest("crowd", RefusedTest::crowd));
        Due.end();
    }

    // ---- the objects

    /** Three mirrors of which no two meet, and a fourth: words grow GREAT. */
    private static MirrorBench wild() {
        MirrorBench x = new MirrorBench();
        for (int i = 0; i < 4; i++) x.mirror(i % 3);
        x.meet(0, 1, 4, 1);
        x.meet(1, 2, 4, 1);
        x.meet(2, 0, 4, 1);
        x.kind(1, 2);
        x.meet(2, 3, 1, 2);
        x.meet(0, 3, 1, 1);
        x.undo();
        slots(x, "012", "0110", "1021", "0101", "", "3", "2323211", "22");
        // 99 that grow, and 100 that end early.
        for (int k = 0; k < 5; k++) x.times(0, 0, 0);
        x.put(0, 0);
        x.put(0, 1);
        x.put(0, 2);
        for (int k = 0; k < 4; k++) x.times(1, 1, 1);
        for (int k = 0; k < 9; k++) {
            x.put(1, 0);
            x.put(1, 0);
            x.put(1, 1);
            x.put(1, 1);
        }
        rows(x);
        return x;
    }

    /** Six mirrors that END: two in a line, at 4, at 6. */
    private static MirrorBench tame() {
        MirrorBench x = new MirrorBench();
        for (int i = 0; i < 6; i++) x.mirror(2 - i % 3);
        x.meet(0, 1, 1, 1);
        x.meet(2, 3, 2, 1);
        x.meet(4, 5, 1, 3);
        slots(x, "01", "012345", "23", "54", "", "1", "0", "5");
        rows(x);
        return x;
    }

    /** Five mirrors of which no two meet: many roots and forms. */
    private static MirrorBench crowd() {
        MirrorBench x = new MirrorBench();
        for (int i = 0; i < 5; i++) x.mirror(0);
        for (int i = 1; i < 5; i++) {
            for (int j = 0; j < i; j++) x.meet(i, j, 2, 2);
        }
        slots(x, "01", "4", "", "", "", "1", "0", "3");
        rows(x);
        return x;
    }

    private static void slots(MirrorBench x, String... words) {
        for (int slot = 0; slot < words.length; slot++) Due.write(x, slot, words[slot]);
    }

    /** Bytes, ints with one that is no mirror as the fifth and one behind all, longs of none, and nothing. */
    private static void rows(MirrorBench x) {
        x.leaf(0, 0, 3);
        x.item(0, 0, 1, 2);
        x.item(0, 0, 2, 1);
        x.leaf(1, 1, 40);
        x.item(1, 1, 4, x.told(3, 0, 0));
        x.item(1, 1, 39, -1);
        x.item(1, 1, 0, 3);
        x.leaf(2, 2, 0);
    }

    // ---- all that an object holds, told by its calls

    private static String all(MirrorBench x) {
        StringBuilder told = new StringBuilder();
        for (int slot = 0; slot < 8; slot++) told.append(wordOf(x, slot)).append('/');
        told.append(x.ends()).append(' ').append(x.roots(3)).append(' ').append(x.forms(2)).append('\n');
        int[] items = {3, 40, 0};
        for (int leaf = 0; leaf < 3; leaf++) {
            for (int i = 0; i < Math.min(items[leaf], 6); i++) told.append(itemOf(x, leaf, i));
            told.append(itemOf(x, leaf, items[leaf] - 1)).append(itemOf(x, leaf, items[leaf])).append(x.drop(leaf)).append('/');
        }
        told.append(x.drop(3)).append('\n');
        for (int left = 0; left >= 0; left = x.undo()) told.append(left).append(setOf(x));
        return told.toString();
    }

    private static String wordOf(MirrorBench x, int slot) {
        int length = x.at(slot, -1);
        if (length < 20) return Due.read(x, slot);
        return length + ": " + x.at(slot, 0) + x.at(slot, 1) + x.at(slot, 49) + x.at(slot, length - 2) + x.at(slot, length - 1);
    }

    private static String itemOf(MirrorBench x, int leaf, int i) {
        return x.word(7, leaf, leaf, i, 1) == 1 ? " " + x.at(7, 0) : " none";
    }

    private static String setOf(MirrorBench x) {
        StringBuilder told = new StringBuilder(": ");
        int mirrors = x.told(3, 0, 0);
        for (int i = 0; i < mirrors; i++) {
            told.append(x.told(0, i, 0)).append('k');
            for (int j = 0; j < i; j++) told.append(x.told(1, i, j)).append(x.told(1, j, i)).append(',');
        }
        return told.append('\n').toString();
    }

    private void is(String call, long want, ToLongFunction<MirrorBench> made) {
        MirrorBench x = this.made.get();
        Due.is(call + " (" + name + ")", made.applyAsLong(x), want);
        Due.is("behind " + call + " (" + name + "), all", all(x), before);
    }

    // ---- without mirrors

    private static void bare(RefusedTest t) {
        t.is("4: less() without mirrors", NOT, x -> x.less());
        t.is("6: undo() of nothing", NOT, x -> x.undo());
        t.is("3: meet(0, 1, 1, 1) without mirrors", BAD, x -> x.meet(0, 1, 1, 1));
        t.is("3: meet(0, 0, 0, 0) without mirrors", BAD, x -> x.meet(0, 0, 0, 0));
        t.is("5: kind(0, 0) without mirrors", BAD, x -> x.kind(0, 0));
        for (int what = 0; what < 3; what++) {
            int w = what;
            t.is("7: told(" + w + ", 0, 0) without mirrors", BAD, x -> x.told(w, 0, 0));
        }
        t.is("9: put(0, 0) without mirrors", BAD, x -> x.put(0, 0));
        t.is("11: at(0, 0) of an empty word", BAD, x -> x.at(0, 0));
        t.is("15: cut(0, 0) of an empty word", BAD, x -> x.cut(0, 0));
        t.is("16: change(0, 0) of an empty word", BAD, x -> x.change(0, 0));
        t.is("21: does(0, 0, 0) without mirrors", BAD - DOWN, x -> x.does(0, 0, 0));
        t.is("25: root(0, 0) without mirrors", BAD, x -> x.root(0, 0));
        t.is("30: next(1, 0, 0) without mirrors", BAD, x -> x.next(1, 0, 0));
        t.is("33: wall(0, 1, 0, 0) without mirrors", BAD - DOWN, x -> x.wall(0, 1, 0, 0));
        for (int leaf = 0; leaf < 4; leaf++) {
            int l = leaf;
            t.is("1, 10: word(0, " + l + ", 0, 0, 0) of nothing", NULL, x -> x.word(0, l, 0, 0, 0));
            t.is("1, 35: drop(" + l + ") of nothing", NULL, x -> x.drop(l));
            t.is("1, 36: item(" + l + ", 0, 0, 0) of nothing", NULL, x -> x.item(l, 0, 0, 0));
            t.is("1, 37: copy(" + l + ", 0, " + l + ", 0, 0) of nothing", NULL, x -> x.copy(l, 0, l, 0, 0));
        }
    }

    // ---- 1 the set

    private static void set(RefusedTest t, int mirrors) {
        for (int kind : NO_KINDS) {
            t.is("2: mirror(" + kind + "), BAD ahead of FULL", BAD, x -> x.mirror(kind));
            t.is("5: kind(0, " + kind + ")", BAD, x -> x.kind(0, kind));
        }
        for (int none : new int[] {-1, mirrors, 6, MIN, MAX}) {
            t.is("3: meet(" + none + ", 0, 1, 1)", BAD, x -> x.meet(none, 0, 1, 1));
            t.is("3: meet(0, " + none + ", 1, 1)", BAD, x -> x.meet(0, none, 1, 1));
            t.is("3: meet(" + none + ", " + none + ", 0, 0)", BAD, x -> x.meet(none, none, 0, 0));
            t.is("5: kind(" + none + ", 0)", BAD, x -> x.kind(none, 0));
            t.is("7: told(0, " + none + ", 0)", BAD, x -> x.told(0, none, 0));
            t.is("7: told(1, " + none + ", 0)", BAD, x -> x.told(1, none, 0));
            t.is("7: told(1, 0, " + none + ")", BAD, x -> x.told(1, 0, none));
            t.is("7: told(2, " + none + ", 0)", BAD, x -> x.told(2, none, 0));
            t.is("7: told(2, 0, " + none + ")", BAD, x -> x.told(2, 0, none));
            t.is("7: told(2, " + none + ", " + none + ")", BAD, x -> x.told(2, none, none));
        }
        for (int i = 0; i < mirrors; i++) {
            int m = i;
            t.is("3: meet(" + m + ", " + m + ", 1, 1): i is j", BAD, x -> x.meet(m, m, 1, 1));
            t.is("3: meet(" + m + ", " + m + ", 0, 0): i is j", BAD, x -> x.meet(m, m, 0, 0));
        }
        int[][] numbers = {{0, 1}, {1, 0}, {0, 4}, {4, 0}, {0, 5}, {5, 0}, {0, MAX}, {1, 5}, {5, 1}, {2, 3}, {3, 2}, {3, 3},
            {2, 4}, {4, 2}, {4, 4}, {-1, -1}, {-1, -4}, {-2, -2}, {-1, 1}, {1, -1}, {0, -1}, {-1, 0}, {MIN, MIN}, {MAX, MAX},
            {65536, 65536}, {1 << 30, 4}, {4, 1 << 30}, {641, 6700417}, {6700417, 641}, {MIN, 2}, {2, MIN}, {1, MAX}};
        for (int[] n : numbers) {
            t.is("3: meet(0, 1, " + n[0] + ", " + n[1] + ")", BAD, x -> x.meet(0, 1, n[0], n[1]));
            t.is("3: meet(2, 1, " + n[0] + ", " + n[1] + ")", BAD, x -> x.meet(2, 1, n[0], n[1]));
        }
        for (int what : new int[] {-1, 4, 5, MIN, MAX}) t.is("7: told(" + what + ", 0, 1)", BAD, x -> x.told(what, 0, 1));
        for (int kind = 0; kind < 3 && mirrors == 6; kind++) {
            int k = kind;
            t.is("2: mirror(" + k + ") as the seventh", FULL, x -> x.mirror(k));
        }
    }

    // ---- 2 words

    private static void words(RefusedTest t) {
        for (int none : NO_SLOTS) {
            t.is("8: clear(" + none + ")", BAD, x -> x.clear(none));
            t.is("9: put(" + none + ", 0)", BAD, x -> x.put(none, 0));
            t.is("11: at(" + none + ", -1)", BAD, x -> x.at(none, -1));
            t.is("11: at(" + none + ", 0)", BAD, x -> x.at(none, 0));
            t.is("12: times(" + none + ", 4, 2)", BAD, x -> x.times(none, 4, 2));
            t.is("12: times(4, " + none + ", 2)", BAD, x -> x.times(4, none, 2));
            t.is("12: times(4, 4, " + none + ")", BAD, x -> x.times(4, 4, none));
            t.is("12: times(1, 1, " + none + "), BAD ahead of FULL", BAD, x -> x.times(1, 1, none));
            t.is("13: back(" + none + ", 0)", BAD, x -> x.back(none, 0));
            t.is("13: back(2, " + none + ")", BAD, x -> x.back(2, none));
            t.is("14: without(" + none + ", 0)", BAD, x -> x.without(none, 0));
            t.is("14: without(2, " + none + ")", BAD, x -> x.without(2, none));
            t.is("15: cut(" + none + ", 0)", BAD, x -> x.cut(none, 0));
            t.is("16: change(" + none + ", 0)", BAD, x -> x.change(none, 0));
        }
        for (int none : new int[] {-1, 4, 5, 6, MIN, MAX}) {
            t.is("9: put(2, " + none + ")", BAD, x -> x.put(2, none));
            t.is("9: put(1, " + none + "), BAD ahead of FULL", BAD, x -> x.put(1, none));
        }
        for (int mirror = 0; mirror < 4; mirror++) {
            int m = mirror;
            t.is("9: put(1, " + m + ") as the 101st", FULL, x -> x.put(1, m));
        }
        for (int k : new int[] {-2, 4, 5, 100, MIN, MAX}) t.is("11: at(2, " + k + ") of 4", BAD, x -> x.at(2, k));
        for (int k : new int[] {-2, 100, 101}) t.is("11: at(1, " + k + ") of 100", BAD, x -> x.at(1, k));
        t.is("11: at(4, 0) of an empty word", BAD, x -> x.at(4, 0));
        t.is("12: times(1, 5, 2): 100 and 1", FULL, x -> x.times(1, 5, 2));
        t.is("12: times(5, 1, 2): 1 and 100", FULL, x -> x.times(5, 1, 2));
        t.is("12: times(0, 7, 7): 99 and 2", FULL, x -> x.times(0, 7, 7));
        t.is("12: times(1, 1, 1): 200", FULL, x -> x.times(1, 1, 1));
        for (int k : new int[] {-1, 3, 4, 5, MIN, MAX}) {
            t.is("15: cut(2, " + k + ") of 4", BAD, x -> x.cut(2, k));
            t.is("16: change(2, " + k + ") of 4", BAD, x -> x.change(2, k));
        }
        for (int k : new int[] {-1, 99, 100}) {
            t.is("15: cut(1, " + k + ") of 100", BAD, x -> x.cut(1, k));
            t.is("16: change(1, " + k + ") of 100", BAD, x -> x.change(1, k));
        }
        t.is("15: cut(5, 0) of one mirror", BAD, x -> x.cut(5, 0));
        t.is("16: change(5, 0) of one mirror", BAD, x -> x.change(5, 0));
        t.is("15: cut(4, 0) of an empty word", BAD, x -> x.cut(4, 0));
        t.is("16: change(4, 0) of an empty word", BAD, x -> x.change(4, 0));
        for (int k = 0; k < 3; k++) {
            int p = k;
            t.is("15: cut(2, " + p + ") of unlike ones", NOT, x -> x.cut(2, p));
        }
        t.is("15: cut(0, 97) of unlike ones", NOT, x -> x.cut(0, 97));
        t.is("16: change(7, 0) of alike ones", NOT, x -> x.change(7, 0));
        t.is("16: change(6, 5) of alike ones", NOT, x -> x.change(6, 5));
        t.is("16: change(3, 0) of two that never meet", NOT, x -> x.change(3, 0));
        t.is("16: change(6, 2) in turn too short by the one behind", NOT, x -> x.change(6, 2));
        t.is("16: change(6, 3) in turn too short", NOT, x -> x.change(6, 3));
    }

    // ---- 3 short ones

    private static void turning(RefusedTest t) {
        for (int none : NO_SLOTS) {
            t.is("17: shorten(" + none + ", 0)", BAD, x -> x.shorten(none, 0));
            t.is("17: shorten(2, " + none + ")", BAD, x -> x.shorten(2, none));
            t.is("17: shorten(0, " + none + "), BAD ahead of GREAT", BAD, x -> x.shorten(0, none));
            t.is("18: form(" + none + ", 0)", BAD, x -> x.form(none, 0));
            t.is("18: form(2, " + none + ")", BAD, x -> x.form(2, none));
            t.is("18: form(0, " + none + "), BAD ahead of GREAT", BAD, x -> x.form(0, none));
            t.is("19: same(" + none + ", 2)", BAD, x -> x.same(none, 2));
            t.is("19: same(2, " + none + ")", BAD, x -> x.same(2, none));
            t.is("19: same(" + none + ", 0), BAD ahead of GREAT", BAD, x -> x.same(none, 0));
            t.is("19: same(0, " + none + "), BAD ahead of GREAT", BAD, x -> x.same(0, none));
            t.is("20: downs(" + none + ", false)", BAD, x -> x.downs(none, false));
            t.is("20: downs(" + none + ", true)", BAD, x -> x.downs(none, true));
            t.is("21: does(" + none + ", 0, 0)", BAD - DOWN, x -> x.does(none, 0, 0));
            t.is("22: order(" + none + ")", BAD, x -> x.order(none));
            t.is("23: below(" + none + ", 2)", BAD, x -> x.below(none, 2));
            t.is("23: below(2, " + none + ")", BAD, x -> x.below(2, none));
            t.is("23: below(" + none + ", 0), BAD ahead of GREAT", BAD, x -> x.below(none, 0));
            t.is("23: below(0, " + none + "), BAD ahead of GREAT", BAD, x -> x.below(0, none));
        }
        for (int none : new int[] {-1, 4, 5, 6, MIN, MAX}) {
            t.is("21: does(2, " + none + ", 0)", BAD - DOWN, x -> x.does(2, none, 0));
            t.is("21: does(2, 0, " + none + ")", BAD - DOWN, x -> x.does(2, 0, none));
            t.is("21: does(0, 2, " + none + "), BAD ahead of GREAT", BAD - DOWN, x -> x.does(0, 2, none));
            t.is("21: does(4, 2, " + none + ") of an empty word", BAD - DOWN, x -> x.does(4, 2, none));
        }
        t.is("22: order(3): there is none", NOT, x -> x.order(3));
    }

    /** Slot 0 has a word of which turns are GREAT. */
    private static void great(RefusedTest t) {
        t.is("17: shorten(0, 7)", GREAT, x -> x.shorten(0, 7));
        t.is("17: shorten(0, 0)", GREAT, x -> x.shorten(0, 0));
        t.is("18: form(0, 7)", GREAT, x -> x.form(0, 7));
        t.is("18: form(0, 0)", GREAT, x -> x.form(0, 0));
        t.is("19: same(0, 4)", GREAT, x -> x.same(0, 4));
        t.is("19: same(4, 0)", GREAT, x -> x.same(4, 0));
        t.is("19: same(0, 0)", GREAT, x -> x.same(0, 0));
        t.is("20: downs(0, false)", GREAT, x -> x.downs(0, false));
        t.is("20: downs(0, true)", GREAT, x -> x.downs(0, true));
        t.is("21: does(0, 2, 1)", GREAT - DOWN, x -> x.does(0, 2, 1));
        t.is("21: does(0, 2, 3), a number that stays small", GREAT - DOWN, x -> x.does(0, 2, 3));
        t.is("22: order(0)", GREAT, x -> x.order(0));
        t.is("23: below(0, 4)", GREAT, x -> x.below(0, 4));
        t.is("23: below(4, 0)", GREAT, x -> x.below(4, 0));
        t.is("31: parts(0, 7, 5, 6)", GREAT, x -> x.parts(0, 7, 5, 6));
        t.is("31: parts(0, 0, 5, 6)", GREAT, x -> x.parts(0, 0, 5, 6));
        t.is("31: parts(0, -1, 0, 6)", GREAT, x -> x.parts(0, -1, 0, 6));
        t.is("32: way(0, 4, 5)", GREAT, x -> x.way(0, 4, 5));
        t.is("32: way(4, 0, 0)", GREAT, x -> x.way(4, 0, 0));
        t.is("33: wall(0, 4, 0, 0)", GREAT - DOWN, x -> x.wall(0, 4, 0, 0));
        t.is("33: wall(4, 0, 0, 3)", GREAT - DOWN, x -> x.wall(4, 0, 0, 3));
    }

    // ---- 4 roots and all words

    private static void roots(RefusedTest t) {
        for (int none : new int[] {0, -1, 41, 42, MIN, MAX}) t.is("24: roots(" + none + ")", BAD, x -> x.roots(none));
        int mirrors = t.made.get().told(3, 0, 0);
        for (int none : new int[] {-1, mirrors, MIN, MAX}) t.is("25: root(0, " + none + ")", BAD, x -> x.root(0, none));
        for (int none : new int[] {-1, 400, 401, MIN, MAX}) t.is("25: root(" + none + ", 0)", BAD, x -> x.root(none, 0));
        for (int none : NO_SLOTS) {
            t.is("28: longest(" + none + "), BAD ahead of NOT", BAD, x -> x.longest(none));
            t.is("30: next(1, 0, " + none + ")", BAD, x -> x.next(1, 0, none));
        }
        for (int none : new int[] {-1, 13, 14, MIN, MAX}) {
            t.is("29: forms(" + none + ")", BAD, x -> x.forms(none));
            t.is("30: next(" + none + ", 0, 7)", BAD, x -> x.next(none, 0, 7));
        }
        for (int none : new int[] {-1, mirrors, 300, MIN, MAX}) t.is("30: next(1, " + none + ", 7)", BAD, x -> x.next(1, none, 7));
        t.is("30: next(0, 1, 7): of none there is one", BAD, x -> x.next(0, 1, 7));
    }

    /** What a set that ENDS has no more of. */
    private static void full(RefusedTest t) {
        t.is("25: root(13, 0) of 13", BAD, x -> x.root(13, 0));
        t.is("30: next(13, 1, 7), of LENGTH 13 there is one", BAD, x -> x.next(13, 1, 7));
        t.is("30: next(12, 6, 7) of 6", BAD, x -> x.next(12, 6, 7));
        t.is("12: times(1, 8, 7)", BAD, x -> x.times(1, 8, 7));
    }

    /** Sets of many roots and forms, of which there is no end. */
    private static void crowd(RefusedTest t) {
        t.is("26: ends()", NOT, x -> x.ends());
        t.is("27: count()", NOT, x -> x.count());
        t.is("28: longest(7)", NOT, x -> x.longest(7));
        t.is("29: forms(5), 1280 of them", FULL, x -> x.forms(5));
        t.is("29: forms(4), 320 of them", FULL, x -> x.forms(4));
        t.is("29: forms(12), of lesser ones more than 300", FULL, x -> x.forms(12));
        t.is("29: forms(13), BAD ahead of FULL", BAD, x -> x.forms(13));
        t.is("30: next(4, 0, 7), forms(4) is FULL", BAD, x -> x.next(4, 0, 7));
        t.is("30: next(12, 0, 7), forms(12) is FULL", BAD, x -> x.next(12, 0, 7));
        t.is("30: next(3, 80, 7) of 80", BAD, x -> x.next(3, 80, 7));
        Due.is("roots(20), with which there are 365", crowd().roots(20), 0);
        Due.is("root(364, ..), the last one", Due.root(crowd(), 364), "0 0 0 9 10");
        t.is("24: roots(21), with which there are more than 400", FULL, x -> x.roots(21));
        t.is("24: roots(22), of which there is none, but up to it there are more than 400", FULL, x -> x.roots(22));
        t.is("24: roots(40)", FULL, x -> x.roots(40));
        t.is("25: root(365, 0), of a HEIGHT for which roots() answers FULL", BAD, x -> x.root(365, 0));
        t.is("25: root(399, 0), of a HEIGHT for which roots() answers FULL", BAD, x -> x.root(399, 0));
        t.is("24: roots(41), BAD ahead of FULL", BAD, x -> x.roots(41));
    }

    // ---- 5 parts, chambers

    private static void chambers(RefusedTest t) {
        for (int none : NO_SLOTS) {
            t.is("31: parts(" + none + ", 1, 5, 6)", BAD, x -> x.parts(none, 1, 5, 6));
            t.is("31: parts(2, 1, " + none + ", 6)", BAD, x -> x.parts(2, 1, none, 6));
            t.is("31: parts(2, 1, 5, " + none + ")", BAD, x -> x.parts(2, 1, 5, none));
            t.is("31: parts(0, 1, 5, " + none + "), BAD ahead of GREAT", BAD, x -> x.parts(0, 1, 5, none));
            t.is("32: way(" + none + ", 2, 5)", BAD, x -> x.way(none, 2, 5));
            t.is("32: way(2, " + none + ", 5)", BAD, x -> x.way(2, none, 5));
            t.is("32: way(2, 2, " + none + ")", BAD, x -> x.way(2, 2, none));
            t.is("32: way(0, 1, " + none + "), BAD ahead of FULL", BAD, x -> x.way(0, 1, none));
            t.is("32: way(0, 4, " + none + "), BAD ahead of GREAT", BAD, x -> x.way(0, 4, none));
            t.is("33: wall(" + none + ", 2, 0, 0)", BAD - DOWN, x -> x.wall(none, 2, 0, 0));
            t.is("33: wall(2, " + none + ", 0, 0)", BAD - DOWN, x -> x.wall(2, none, 0, 0));
            t.is("33: wall(0, " + none + ", 0, 0), BAD ahead of GREAT", BAD - DOWN, x -> x.wall(0, none, 0, 0));
        }
        for (int slot = 0; slot < 8; slot++) {
            int s = slot;
            t.is("31: parts(2, 1, " + s + ", " + s + "): both slots are one", BAD, x -> x.parts(2, 1, s, s));
        }
        t.is("31: parts(0, 1, 3, 3), BAD ahead of GREAT", BAD, x -> x.parts(0, 1, 3, 3));
        t.is("32: way(1, 5, 2): 100 and 1", FULL, x -> x.way(1, 5, 2));
        t.is("32: way(5, 1, 2): 1 and 100", FULL, x -> x.way(5, 1, 2));
        t.is("32: way(1, 1, 1): 200", FULL, x -> x.way(1, 1, 1));
        t.is("32: way(0, 0, 2), FULL ahead of GREAT", FULL, x -> x.way(0, 0, 2));
        t.is("32: way(0, 7, 2): 101", FULL, x -> x.way(0, 7, 2));
        for (int none : new int[] {-1, 4, 5, 6, MIN, MAX}) {
            t.is("33: wall(2, 5, 0, " + none + ")", BAD - DOWN, x -> x.wall(2, 5, 0, none));
            t.is("33: wall(0, 5, 0, " + none + "), BAD ahead of GREAT", BAD - DOWN, x -> x.wall(0, 5, 0, none));
        }
        for (int none : new int[] {-1, 5, 6, 100, MIN, MAX}) t.is("33: wall(2, 5, " + none + ", 0) of 5", BAD - DOWN, x -> x.wall(2, 5, none, 0));
        t.is("33: wall(0, 5, -1, 0), BAD ahead of GREAT", BAD - DOWN, x -> x.wall(0, 5, -1, 0));
        t.is("33: wall(2, 2, 0, 0) of a way of none", BAD - DOWN, x -> x.wall(2, 2, 0, 0));
        t.is("33: wall(1, 4, 0, 0) of a way of none", BAD - DOWN, x -> x.wall(1, 4, 0, 0));
        t.is("33: wall(1, 5, 0, 0) where way() is FULL", BAD - DOWN, x -> x.wall(1, 5, 0, 0));
        t.is("33: wall(0, 0, 0, 0) where way() is FULL", BAD - DOWN, x -> x.wall(0, 0, 0, 0));
    }

    // ---- 6 leaves

    private static void leaves(RefusedTest t) {
        for (int none : NO_LEAVES) {
            t.is("10: word(2, " + none + ", 0, 0, 1)", BAD, x -> x.word(2, none, 0, 0, 1));
            t.is("34: leaf(" + none + ", 0, 1)", BAD, x -> x.leaf(none, 0, 1));
            t.is("34: leaf(" + none + ", 0, -1), BAD ahead of SIZE", BAD, x -> x.leaf(none, 0, -1));
            t.is("35: drop(" + none + ")", BAD, x -> x.drop(none));
            t.is("36: item(" + none + ", 0, 0, 1)", BAD, x -> x.item(none, 0, 0, 1));
            t.is("37: copy(" + none + ", 0, 0, 0, 1)", BAD, x -> x.copy(none, 0, 0, 0, 1));
            t.is("37: copy(0, 0, " + none + ", 0, 1)", BAD, x -> x.copy(0, 0, none, 0, 1));
            t.is("37: copy(3, 0, " + none + ", 0, 1), BAD ahead of NULL", BAD, x -> x.copy(3, 0, none, 0, 1));
            t.is("37: copy(" + none + ", 0, 3, 0, 1), BAD ahead of NULL", BAD, x -> x.copy(none, 0, 3, 0, 1));
            t.is("37: copy(" + none + ", 9, 0, 9, -1), BAD ahead of INDEX", BAD, x -> x.copy(none, 9, 0, 9, -1));
        }
        for (int none : NO_LANES) {
            t.is("10: word(2, 0, " + none + ", 0, 1)", BAD, x -> x.word(2, 0, none, 0, 1));
            t.is("10: word(2, 3, " + none + ", 0, 1), BAD ahead of NULL", BAD, x -> x.word(2, 3, none, 0, 1));
            t.is("10: word(2, 0, " + none + ", 0, -1), BAD ahead of SIZE", BAD, x -> x.word(2, 0, none, 0, -1));
            t.is("34: leaf(0, " + none + ", 1)", BAD, x -> x.leaf(0, none, 1));
            t.is("34: leaf(0, " + none + ", -1), BAD ahead of SIZE", BAD, x -> x.leaf(0, none, -1));
            t.is("36: item(0, " + none + ", 0, 1)", BAD, x -> x.item(0, none, 0, 1));
            t.is("36: item(3, " + none + ", 0, 1), BAD ahead of NULL", BAD, x -> x.item(3, none, 0, 1));
            t.is("36: item(0, " + none + ", 9, 1), BAD ahead of INDEX", BAD, x -> x.item(0, none, 9, 1));
        }
        for (int none : NO_SLOTS) {
            t.is("10: word(" + none + ", 0, 0, 0, 1)", BAD, x -> x.word(none, 0, 0, 0, 1));
            t.is("10: word(" + none + ", 3, 0, 0, 1), BAD ahead of NULL", BAD, x -> x.word(none, 3, 0, 0, 1));
            t.is("10: word(" + none + ", 0, 1, 0, 1), BAD ahead of CAST", BAD, x -> x.word(none, 0, 1, 0, 1));
            t.is("10: word(" + none + ", 0, 0, 9, -1), BAD ahead of SIZE", BAD, x -> x.word(none, 0, 0, 9, -1));
        }
        found(t);
        places(t);
    }

    /** NULL, CAST and SIZE. */
    private static void found(RefusedTest t) {
        t.is("10: word(2, 3, 0, 0, 1) of nothing", NULL, x -> x.word(2, 3, 0, 0, 1));
        t.is("10: word(2, 3, 0, 9, -1), NULL ahead of SIZE", NULL, x -> x.word(2, 3, 0, 9, -1));
        t.is("36: item(3, 0, 9, 1), NULL ahead of INDEX", NULL, x -> x.item(3, 0, 9, 1));
        t.is("35: drop(3) of nothing", NULL, x -> x.drop(3));
        t.is("37: copy(3, 0, 0, 0, 1): the one from which", NULL, x -> x.copy(3, 0, 0, 0, 1));
        t.is("37: copy(0, 0, 3, 0, 1): the one to which", NULL, x -> x.copy(0, 0, 3, 0, 1));
        t.is("37: copy(3, 0, 3, 0, 0): both", NULL, x -> x.copy(3, 0, 3, 0, 0));
        t.is("37: copy(3, 9, 0, 9, -1), NULL ahead of INDEX", NULL, x -> x.copy(3, 9, 0, 9, -1));
        for (int leaf = 0; leaf < 3; leaf++) {
            for (int lane = 0; lane < 3; lane++) {
                if (lane == leaf) continue;
                int f = leaf;
                int g = lane;
                t.is("10: word(2, " + f + ", " + g + ", 0, 0)", CAST, x -> x.word(2, f, g, 0, 0));
                t.is("10: word(2, " + f + ", " + g + ", 0, -1), CAST ahead of SIZE", CAST, x -> x.word(2, f, g, 0, -1));
                t.is("10: word(2, " + f + ", " + g + ", 41, 0), CAST ahead of INDEX", CAST, x -> x.word(2, f, g, 41, 0));
                t.is("36: item(" + f + ", " + g + ", 0, 1)", CAST, x -> x.item(f, g, 0, 1));
                t.is("36: item(" + f + ", " + g + ", -1, 1), CAST ahead of INDEX", CAST, x -> x.item(f, g, -1, 1));
                t.is("37: copy(" + f + ", 0, " + g + ", 0, 0): unlike lanes", CAST, x -> x.copy(f, 0, g, 0, 0));
                t.is("37: copy(" + f + ", 0, " + g + ", 0, -1), CAST ahead of INDEX", CAST, x -> x.copy(f, 0, g, 0, -1));
            }
        }
        for (int n : new int[] {-1, -40, MIN}) {
            t.is("10: word(2, 0, 0, 0, " + n + ")", SIZE, x -> x.word(2, 0, 0, 0, n));
            t.is("10: word(2, 0, 0, 4, " + n + "), SIZE ahead of INDEX", SIZE, x -> x.word(2, 0, 0, 4, n));
            t.is("10: word(2, 0, 0, -1, " + n + "), SIZE ahead of INDEX", SIZE, x -> x.word(2, 0, 0, -1, n));
            t.is("34: leaf(0, 0, " + n + ")", SIZE, x -> x.leaf(0, 0, n));
            t.is("34: leaf(3, 2, " + n + ")", SIZE, x -> x.leaf(3, 2, n));
            t.is("37: copy(0, 0, 0, 0, " + n + "), no SIZE", INDEX, x -> x.copy(0, 0, 0, 0, n));
        }
        for (int n : new int[] {41, 42, 100, MAX}) t.is("34: leaf(0, 0, " + n + ")", BAD, x -> x.leaf(0, 0, n));
    }

    /** INDEX, and behind it items that are no mirrors. */
    private static void places(RefusedTest t) {
        int[][] froms = {{-1, 1}, {-1, 0}, {-1, 4}, {0, 4}, {1, 3}, {2, 2}, {3, 1}, {4, 0}, {4, 1}, {MIN, 1}, {MIN, 0}, {MAX, 1},
            {MAX, 0}, {MAX, MAX}, {0, MAX}, {1, MAX}, {3, MAX}, {MIN, MAX}, {-2, 2}};
        for (int[] f : froms) {
            t.is("10: word(2, 0, 0, " + f[0] + ", " + f[1] + ") of 3", INDEX, x -> x.word(2, 0, 0, f[0], f[1]));
            t.is("37: copy(0, " + f[0] + ", 0, 0, " + f[1] + ") of 3", INDEX, x -> x.copy(0, f[0], 0, 0, f[1]));
            t.is("37: copy(0, 0, 0, " + f[0] + ", " + f[1] + ") of 3", INDEX, x -> x.copy(0, 0, 0, f[0], f[1]));
        }
        for (int i : new int[] {-1, 3, 4, 40, MIN, MAX}) t.is("36: item(0, 0, " + i + ", 1) of 3", INDEX, x -> x.item(0, 0, i, 1));
        for (int i : new int[] {-1, 40, 41}) t.is("36: item(1, 1, " + i + ", 1) of 40", INDEX, x -> x.item(1, 1, i, 1));
        for (int i : new int[] {-1, 0, 1}) t.is("36: item(2, 2, " + i + ", 1) of none", INDEX, x -> x.item(2, 2, i, 1));
        t.is("10: word(2, 1, 1, 0, 41) of 40", INDEX, x -> x.word(2, 1, 1, 0, 41));
        t.is("10: word(2, 1, 1, 4, 37), INDEX ahead of an item that is none", INDEX, x -> x.word(2, 1, 1, 4, 37));
        t.is("10: word(2, 2, 2, 0, 1) of none", INDEX, x -> x.word(2, 2, 2, 0, 1));
        t.is("10: word(2, 1, 1, 4, 1): a mirror that there is not", BAD, x -> x.word(2, 1, 1, 4, 1));
        t.is("10: word(2, 1, 1, 0, 5): a mirror that there is not, the last", BAD, x -> x.word(2, 1, 1, 0, 5));
        t.is("10: word(2, 1, 1, 39, 1): below 0", BAD, x -> x.word(2, 1, 1, 39, 1));
        t.is("10: word(2, 1, 1, 5, 35): below 0, the last", BAD, x -> x.word(2, 1, 1, 5, 35));
        t.is("10: word(2, 1, 1, 0, 40)", BAD, x -> x.word(2, 1, 1, 0, 40));
    }
}
