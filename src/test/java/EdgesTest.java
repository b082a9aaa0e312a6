/**
 * Every edge that the document names and at which a call still goes well, promise by promise: the least and the greatest
 * number, none and all, empty and full, the same slot for two, places at either end. RefusedTest has what lies beyond.
 */
public final class EdgesTest {
    private static final int MIN = Integer.MIN_VALUE, MAX = Integer.MAX_VALUE;
    private static final int[] ANGLES = {2, 3, 4, 6, 0};

    public static void main(String[] args) {
        newObject();
        noneToSixMirrors();
        aNewMirrorMeetsAllAtTwo();
        kindsOfMirrors();
        numbersThatMeet();
        theLastGoes();
        kindStaysWithWords();
        setsTakenBack();
        sixteenAtMost();
        toldLooksOnlyAtWhatItTells();
        wordsBecomeEmpty();
        slotsAndTheirLengths();
        joiningWords();
        turningRound();
        clearOnesGo();
        cutAtEitherEnd();
        changeAtEitherEnd();
        wordsFromRows();
        rowsOfAllLengths();
        rowsMadeAnew();
        lowestBits();
        copyAsIfTakenAhead();
        Due.end();
    }

    // ---- 1 and the set

    /** 1: no MIRRORS; each WORD is empty; nothing in LEAVES. */
    private static void newObject() {
        MirrorBench x = new MirrorBench();
        Due.is("told(3, MIN, MAX)", x.told(3, MIN, MAX), 0);
        for (int slot = 0; slot < 8; slot++) {
            Due.is("at(slot, -1)", x.at(slot, -1), 0);
            Due.is("clear(slot)", x.clear(slot), 0);
        }
        for (int leaf = 0; leaf < 4; leaf++) Due.is("drop(leaf)", x.drop(leaf), -11);
        Due.is("roots(1)", x.roots(1), 0);
        Due.is("forms(0)", x.forms(0), 1);
        Due.is("undo()", x.undo(), -2);
        MirrorBench y = new MirrorBench();
        x.mirror(0);
        x.leaf(0, 0, 1);
        Due.is("told(3, 0, 0) of another object", y.told(3, 0, 0), 0);
        Due.is("drop(0) of another object", y.drop(0), -11);
    }

    /** THE SET has 0 to 6 MIRRORS 0, 1, ..; 2: its number; FULL: 6; behind less() there is place again. */
    private static void noneToSixMirrors() {
        MirrorBench x = new MirrorBench();
        for (int i = 0; i < 6; i++) {
            Due.is("mirror(1)", x.mirror(1), i);
            Due.is("told(3, 0, 0)", x.told(3, 0, 0), i + 1);
            Due.is("put(0, i)", x.put(0, i), 1);
        }
        Due.is("mirror(1)", x.mirror(1), -3);
        Due.is("less()", x.less(), 5);
        Due.is("mirror(2)", x.mirror(2), 5);
        Due.is("mirror(2)", x.mirror(2), -3);
        for (int left = 5; left >= 0; left--) Due.is("less()", x.less(), left);
        Due.is("less()", x.less(), -2);
        Due.is("mirror(0)", x.mirror(0), 0);
    }

    /** 2: a MIRROR more, that meets all at 2, also in the place of one that met others. */
    private static void aNewMirrorMeetsAllAtTwo() {
        MirrorBench x = Due.bench(6, Due.meet(5, 0, 1, 1), Due.meet(5, 4, 2, 2), Due.meet(3, 5, 1, 3));
        x.less();
        x.mirror(0);
        for (int i = 0; i < 5; i++) {
            Due.is("told(2, 5, i)", x.told(2, 5, i), 2);
            Due.is("told(2, i, 5)", x.told(2, i, 5), 2);
            Due.is("told(1, 5, i)", x.told(1, 5, i), 0);
            Due.is("told(1, i, 5)", x.told(1, i, 5), 0);
        }
        Due.is("roots(2)", x.roots(2), 0);
        Due.is("ends()", x.ends(), 6);
    }

    /** KINDS: 0 PLAIN, 1 STILL, 2 CLEAR, which is STILL, too. */
    private static void kindsOfMirrors() {
        for (int kind = 0; kind < 3; kind++) {
            MirrorBench x = new MirrorBench();
            Due.is("mirror(kind)", x.mirror(kind), 0);
            Due.is("told(0, 0, MAX)", x.told(0, 0, MAX), kind);
            x.put(0, 0);
            Due.is("without(0, 1) of kind " + kind, x.without(0, 1), kind == 2 ? 0 : 1);
            Due.is("parts(0, -1, 2, 3) of kind " + kind, x.parts(0, -1, 2, 3), kind == 0 ? 1 : 0);
            for (int other = 0; other < 3; other++) {
                Due.is("kind(0, other)", x.kind(0, other), kind);
                Due.is("kind(0, kind)", x.kind(0, kind), other);
                Due.is("kind(0, kind) once more", x.kind(0, kind), kind);
            }
        }
    }

    /** 3: both 0 or none, whose product is 4 at most: MEET at 2, 3, 4, 6, or never. */
    private static void numbersThatMeet() {
        int[][] numbers = {{0, 0}, {1, 1}, {1, 2}, {2, 1}, {1, 3}, {3, 1}, {1, 4}, {4, 1}, {2, 2}};
        MirrorBench x = Due.bench(6, Due.meet(2, 3, 1, 2));
        for (int round = 0; round < 2; round++) {
            for (int[] n : numbers) {
                int angle = ANGLES[n[0] * n[1]];
                Due.is("meet(5, 0, " + n[0] + ", " + n[1] + ")", x.meet(5, 0, n[0], n[1]), angle);
                Due.is("told(1, 5, 0)", x.told(1, 5, 0), n[0]);
                Due.is("told(1, 0, 5)", x.told(1, 0, 5), n[1]);
                Due.is("told(2, 5, 0)", x.told(2, 5, 0), angle);
                Due.is("told(2, 0, 5)", x.told(2, 0, 5), angle);
                Due.is("told(2, 2, 3) of two others", x.told(2, 2, 3), 4);
            }
        }
        // The same numbers once more are a change, too.
        Due.is("meet(5, 0, 2, 2)", x.meet(5, 0, 2, 2), 0);
        x.put(0, 1);
        Due.is("meet(5, 0, 2, 2)", x.meet(5, 0, 2, 2), 0);
        Due.is("at(0, -1)", x.at(0, -1), 0);
        Due.is("undo()", x.undo(), 15);
        Due.is("told(1, 5, 0)", x.told(1, 5, 0), 2);
    }

    /** 4: the last MIRROR goes, and what it met with it; the others stay as they are. */
    private static void theLastGoes() {
        MirrorBench x = Due.bench(3, Due.meet(0, 1, 1, 2), Due.meet(1, 2, 3, 1), Due.meet(0, 2, 2, 2));
        Due.is("ends()", x.ends(), -2);
        Due.is("less()", x.less(), 2);
        Due.is("ends()", x.ends(), 4);
        Due.is("told(1, 0, 1)", x.told(1, 0, 1), 1);
        Due.is("told(1, 1, 0)", x.told(1, 1, 0), 2);
        Due.is("put(0, 2)", x.put(0, 2), -1);
        Due.is("less()", x.less(), 1);
        Due.is("ends()", x.ends(), 1);
        Due.is("less()", x.less(), 0);
        Due.is("ends()", x.ends(), 0);
        for (int left = 8; left >= 6; left--) Due.is("undo()", x.undo(), left);
        Due.is("told(1, 1, 2)", x.told(1, 1, 2), 3);
        Due.is("told(1, 2, 1)", x.told(1, 2, 1), 1);
    }

    /** 5: the KIND becomes another one, each WORD stays; it is no step to take back. */
    private static void kindStaysWithWords() {
        MirrorBench x = Due.bench(2, Due.meet(0, 1, 1, 1));
        for (int slot = 0; slot < 8; slot++) Due.write(x, slot, "10");
        Due.is("roots(2)", x.roots(2), 1);
        for (int kind = 1; kind < 4; kind++) Due.is("kind(1, kind % 3)", x.kind(1, kind % 3), kind - 1);
        for (int slot = 0; slot < 8; slot++) Due.is("word", Due.read(x, slot), "10");
        Due.is("undo()", x.undo(), 2);
    }

    /** 6: the latest accepted change goes, KINDS, too; a refused one is none; each WORD is empty. */
    private static void setsTakenBack() {
        MirrorBench x = new MirrorBench();
        x.mirror(2);
        x.kind(0, 1);
        x.mirror(1);
        x.kind(0, 0);
        x.kind(1, 2);
        x.meet(0, 1, 1, 4);
        x.kind(0, 2);
        x.meet(0, 1, 2, 3);
        x.meet(0, 0, 1, 1);
        x.mirror(3);
        x.less();
        Due.is("less() taken back", x.undo(), 3);
        Due.is("told(3, 0, 0)", x.told(3, 0, 0), 2);
        Due.is("told(0, 0, 0)", x.told(0, 0, 0), 2);
        Due.is("told(0, 1, 0)", x.told(0, 1, 0), 2);
        Due.is("told(1, 1, 0)", x.told(1, 1, 0), 4);
        x.put(7, 1);
        Due.is("meet() taken back", x.undo(), 2);
        Due.is("at(7, -1)", x.at(7, -1), 0);
        Due.is("told(0, 0, 0)", x.told(0, 0, 0), 0);
        Due.is("told(0, 1, 0)", x.told(0, 1, 0), 2);
        Due.is("told(2, 1, 0)", x.told(2, 1, 0), 2);
        Due.is("mirror() taken back", x.undo(), 1);
        Due.is("told(3, 0, 0)", x.told(3, 0, 0), 1);
        Due.is("told(0, 0, 0)", x.told(0, 0, 0), 1);
        Due.is("the first mirror() taken back", x.undo(), 0);
        Due.is("told(3, 0, 0)", x.told(3, 0, 0), 0);
        Due.is("undo() of nothing", x.undo(), -2);
        Due.is("mirror(0)", x.mirror(0), 0);
        Due.is("undo()", x.undo(), 0);
        Due.is("undo()", x.undo(), -2);
    }

    /** 6: 16 at most; a 17th change lets the first one go; what is taken back makes place. */
    private static void sixteenAtMost() {
        for (int changes = 14; changes <= 40; changes++) {
            MirrorBench x = Due.bench(1);
            // Two mirrors behind each odd change, one behind each even one.
            for (int k = 1; k < changes; k++) Due.is("change", k % 2 == 1 ? x.mirror(k % 3) : x.less(), 1);
            int most = Math.min(changes, 16);
            for (int left = most - 1; left >= 0; left--) {
                Due.is("undo() of " + changes, x.undo(), left);
                int behind = changes - most + left;
                Due.is("told(3, 0, 0) behind " + behind + " changes", x.told(3, 0, 0), behind == 0 ? 0 : 2 - behind % 2);
                if (behind > 0 && behind % 2 == 0) Due.is("told(0, 1, 0)", x.told(0, 1, 0), (behind - 1) % 3);
            }
            Due.is("undo() of " + changes, x.undo(), -2);
        }
        MirrorBench y = Due.bench(2);
        for (int k = 0; k < 30; k++) y.meet(0, 1, 1, 1 + k % 4);
        for (int round = 0; round < 5; round++) {
            for (int left = 15; left >= 11; left--) Due.is("undo()", y.undo(), left);
            for (int k = 0; k < 6; k++) y.meet(0, 1, 1, 1);
            Due.is("undo()", y.undo(), 15);
            y.meet(0, 1, 1, 1);
        }
    }

    /** 7: 1: 0 of i, i; 2: 1 of i, i; of 3 i, j are not looked at, of 0 j is not. */
    private static void toldLooksOnlyAtWhatItTells() {
        MirrorBench x = Due.bench(6, Due.meet(0, 5, 2, 2));
        for (int i = 0; i < 6; i++) {
            Due.is("told(1, i, i)", x.told(1, i, i), 0);
            Due.is("told(2, i, i)", x.told(2, i, i), 1);
            for (int j : new int[] {-1, 6, MIN, MAX}) {
                Due.is("told(0, i, j)", x.told(0, i, j), 0);
                Due.is("told(3, i, j)", x.told(3, i, j), 6);
                Due.is("told(3, j, i)", x.told(3, j, i), 6);
                Due.is("told(3, j, j)", x.told(3, j, j), 6);
            }
        }
        Due.is("told(2, 0, 5)", x.told(2, 0, 5), 0);
        Due.is("told(2, 5, 0)", x.told(2, 5, 0), 0);
    }

    /** By mirror(), meet(), less(), undo() each WORD is empty, of each SLOT, also where nothing else changes. */
    private static void wordsBecomeEmpty() {
        for (int how = 0; how < 5; how++) {
            MirrorBench x = Due.bench(2, Due.meet(0, 1, 1, 1));
            for (int slot = 0; slot < 8; slot++) Due.write(x, slot, "101");
            if (how == 0) Due.is("mirror(0)", x.mirror(0), 2);
            if (how == 1) Due.is("meet(0, 1, 1, 1)", x.meet(0, 1, 1, 1), 3);
            if (how == 2) Due.is("less()", x.less(), 1);
            if (how == 3) Due.is("undo()", x.undo(), 2);
            if (how == 4) Due.is("kind(0, 0)", x.kind(0, 0), 0);
            for (int slot = 0; slot < 8; slot++) Due.is("at(slot, -1) behind " + how, x.at(slot, -1), how == 4 ? 3 : 0);
        }
    }

    // ---- 2 words

    /** A WORD is a row of 0 to 100 MIRRORS in SLOTS 0 .. 7; 8, 9, 11: each length, each place. */
    private static void slotsAndTheirLengths() {
        MirrorBench x = Due.bench(6);
        for (int slot = 0; slot < 8; slot += 7) {
            Due.is("at(slot, -1) of an empty word", x.at(slot, -1), 0);
            for (int k = 0; k < 100; k++) {
                Due.is("put(slot, k % 6)", x.put(slot, k % 6), k + 1);
                Due.is("at(slot, k)", x.at(slot, k), k % 6);
                Due.is("at(slot, k + 1)", x.at(slot, k + 1), -1);
            }
            Due.is("put(slot, 0)", x.put(slot, 0), -3);
            Due.is("at(slot, -1) of a full word", x.at(slot, -1), 100);
            Due.is("at(slot, 0) of a full word", x.at(slot, 0), 0);
            Due.is("at(slot, 99) of a full word", x.at(slot, 99), 3);
        }
        Due.is("clear(0)", x.clear(0), 100);
        Due.is("clear(0)", x.clear(0), 0);
        Due.is("put(0, 5)", x.put(0, 5), 1);
        Due.is("at(0, 1)", x.at(0, 1), -1);
        Due.is("at(7, -1) of another slot", x.at(7, -1), 100);
    }

    /** 12: none and none, none and all, just 100; the SLOT to which may be either of both. */
    private static void joiningWords() {
        MirrorBench x = Due.bench(2);
        Due.is("times(0, 1, 2): none and none", x.times(0, 1, 2), 0);
        for (int k = 0; k < 50; k++) x.put(0, k % 2);
        Due.is("times(0, 0, 1): 50 and 50", x.times(0, 0, 1), 100);
        Due.is("times(1, 2, 3): 100 and none", x.times(1, 2, 3), 100);
        Due.is("times(2, 1, 4): none and 100", x.times(2, 1, 4), 100);
        Due.is("at(4, 99)", x.at(4, 99), 1);
        x.put(2, 1);
        Due.is("times(1, 2, 5): 100 and 1", x.times(1, 2, 5), -3);
        Due.is("at(5, -1)", x.at(5, -1), 0);
        Due.write(x, 6, Due.times("1", 99));
        Due.is("times(6, 2, 6): 99 and 1", x.times(6, 2, 6), 100);
        Due.write(x, 3, "0");
        Due.is("times(2, 3, 3)", x.times(2, 3, 3), 2);
        Due.is("word of times(2, 3, 3)", Due.read(x, 3), "10");
        Due.is("times(3, 2, 3)", x.times(3, 2, 3), 3);
        Due.is("word of times(3, 2, 3)", Due.read(x, 3), "101");
        Due.is("times(3, 3, 3)", x.times(3, 3, 3), 6);
        Due.is("word of times(3, 3, 3)", Due.read(x, 3), "101101");
        Due.is("times(3, 7, 3)", x.times(3, 7, 3), 6);
        Due.is("times(7, 7, 3)", x.times(7, 7, 3), 0);
        Due.is("at(3, -1)", x.at(3, -1), 0);
    }

    /** 13: none, one, just 100; to its own SLOT. */
    private static void turningRound() {
        MirrorBench x = Due.bench(6);
        Due.is("back(0, 1) of none", x.back(0, 1), 0);
        Due.write(x, 2, "5");
        Due.is("back(2, 2) of one", x.back(2, 2), 1);
        Due.is("word of back(2, 2)", Due.read(x, 2), "5");
        Due.is("back(0, 2) of none", x.back(0, 2), 0);
        Due.is("at(2, -1)", x.at(2, -1), 0);
        String all = Due.times("012345", 16) + "0123";
        Due.write(x, 3, all);
        Due.is("back(3, 3) of 100", x.back(3, 3), 100);
        Due.is("word of back(3, 3)", Due.read(x, 3), Model.inverted(all));
        Due.is("back(3, 4) of 100", x.back(3, 4), 100);
        Due.is("word of back(3, 4)", Due.read(x, 4), all);
    }

    /** 14: none, all, the first and the last CLEAR; STILL ones stay; to its own SLOT. */
    private static void clearOnesGo() {
        MirrorBench x = new MirrorBench();
        for (int kind = 0; kind < 3; kind++) x.mirror(kind);
        String[][] words = {{"", ""}, {"2", ""}, {"222", ""}, {"0", "0"}, {"1", "1"}, {"20", "0"}, {"02", "0"}, {"2102", "10"},
            {"1221", "11"}, {"0101", "0101"}};
        for (String[] w : words) {
            Due.write(x, 0, w[0]);
            Due.is("without(0, 1) of " + w[0], x.without(0, 1), w[1].length());
            Due.is("word of without(0, 1)", Due.read(x, 1), w[1]);
            Due.is("without(0, 0) of " + w[0], x.without(0, 0), w[1].length());
            Due.is("word of without(0, 0)", Due.read(x, 0), w[1]);
        }
        Due.write(x, 2, Due.times("2", 100));
        Due.is("without(2, 3) of 100", x.without(2, 3), 0);
        Due.write(x, 2, Due.times("1", 100));
        Due.is("without(2, 3) of 100", x.without(2, 3), 100);
    }

    /** 15: two alike at the first place, at the last one, alone, of 100, and two of three. */
    private static void cutAtEitherEnd() {
        MirrorBench x = Due.bench(3);
        String[][] cuts = {{"00", "0", ""}, {"0012", "0", "12"}, {"1200", "2", "12"}, {"1002", "1", "12"}, {"000", "0", "0"},
            {"000", "1", "0"}, {"0110", "1", "00"}};
        for (String[] c : cuts) {
            Due.write(x, 0, c[0]);
            Due.is("cut(0, " + c[1] + ") of " + c[0], x.cut(0, c[1].charAt(0) - '0'), c[2].length());
            Due.is("word of cut " + c[0], Due.read(x, 0), c[2]);
        }
        Due.write(x, 1, Due.times("01", 49) + "22");
        Due.is("cut(1, 98) of 100", x.cut(1, 98), 98);
        Due.is("word of cut(1, 98)", Due.read(x, 1), Due.times("01", 49));
        Due.write(x, 1, "22" + Due.times("01", 49));
        Due.is("cut(1, 0) of 100", x.cut(1, 0), 98);
        Due.is("word of cut(1, 0)", Due.read(x, 1), Due.times("01", 49));
    }

    /** 16: as many as that at which they MEET, 2, 3, 4, 6: just so many, more of them, one less; at either end. */
    private static void changeAtEitherEnd() {
        int[][] numbers = {{0, 0}, {1, 1}, {1, 2}, {2, 1}, {1, 3}, {3, 1}};
        for (int[] n : numbers) {
            int many = ANGLES[n[0] * n[1]];
            MirrorBench x = Due.bench(3, Due.meet(0, 1, n[0], n[1]));
            String turns = Due.times("01", 4).substring(0, many);
            String other = Due.times("10", 4).substring(0, many);
            String[][] words = {{turns, other}, {other, turns}, {turns + "2", other + "2"}, {turns + "01", other + "01"},
                {turns + "10", other + "10"}};
            for (String[] w : words) {
                Due.write(x, 0, w[0]);
                Due.is("change(0, 0) of " + w[0], x.change(0, 0), many);
                Due.is("word of change " + w[0], Due.read(x, 0), w[1]);
                Due.write(x, 0, Due.times("2", 100 - w[0].length()) + w[0]);
                Due.is("change(0, ..) of 100 with " + w[0], x.change(0, 100 - w[0].length()), many);
                Due.is("word of change, of 100", Due.read(x, 0), Due.times("2", 100 - w[0].length()) + w[1]);
            }
            if (many == 2) continue;
            Due.write(x, 0, turns);
            Due.write(x, 0, turns.substring(0, many - 1));
            Due.is("change(0, 0) of one less, where a longer word was", x.change(0, 0), -2);
            for (String end : new String[] {"", "2", turns.substring(many - 2, many - 1) + turns.substring(many - 2, many - 1)}) {
                Due.write(x, 0, turns.substring(0, many - 1) + end);
                Due.is("change(0, 0) of one less and " + end, x.change(0, 0), -2);
                Due.is("word behind change", Due.read(x, 0), turns.substring(0, many - 1) + end);
            }
        }
        MirrorBench y = Due.bench(2, Due.meet(0, 1, 2, 2));
        Due.write(y, 0, Due.times("01", 50));
        Due.is("change(0, 0) of two that never meet", y.change(0, 0), -2);
    }

    // ---- 3 and leaves

    /** 10: none, one, all 40 items; each LANE, LEAF and SLOT at either end; the greatest mirror, and one more. */
    private static void wordsFromRows() {
        MirrorBench x = Due.bench(6);
        for (int leaf = 0; leaf < 4; leaf++) {
            for (int lane = 0; lane < 3; lane++) {
                x.leaf(leaf, lane, 40);
                for (int i = 0; i < 40; i += 13) Due.is("item", x.item(leaf, lane, i, 5), 1);
                int slot = leaf % 2 * 7;
                Due.is("word(slot, leaf, lane, 0, 40)", x.word(slot, leaf, lane, 0, 40), 40);
                Due.is("at(slot, 39)", x.at(slot, 39), 5);
                Due.is("at(slot, 38)", x.at(slot, 38), 0);
                Due.is("word(slot, leaf, lane, 39, 1)", x.word(slot, leaf, lane, 39, 1), 1);
                Due.is("word of one", Due.read(x, slot), "5");
                Due.is("word(slot, leaf, lane, 40, 0)", x.word(slot, leaf, lane, 40, 0), 0);
                Due.is("word of none", Due.read(x, slot), "");
                Due.is("word(slot, leaf, lane, 0, 0)", x.word(slot, leaf, lane, 0, 0), 0);
                Due.is("word(slot, leaf, lane, 41, 0)", x.word(slot, leaf, lane, 41, 0), -13);
            }
        }
        x.item(3, 2, 39, 6);
        Due.is("word(0, 3, 2, 39, 1) of a seventh", x.word(0, 3, 2, 39, 1), -1);
        Due.is("word(0, 3, 2, 0, 39)", x.word(0, 3, 2, 0, 39), 39);
        x.less();
        Due.is("word(0, 3, 2, 0, 1) of a sixth of five", x.word(0, 3, 2, 0, 1), -1);
        Due.is("word(0, 3, 2, 1, 1)", x.word(0, 3, 2, 1, 1), 1);
    }

    /** 34, 35: rows of 0 to 40 items; how many a LEAF had. */
    private static void rowsOfAllLengths() {
        MirrorBench x = Due.bench(1);
        for (int lane = 0; lane < 3; lane++) {
            for (int n = 0; n <= 40; n++) {
                int leaf = n % 4;
                Due.is("leaf(leaf, lane, n)", x.leaf(leaf, lane, n), n);
                Due.is("item(leaf, lane, n, 0)", x.item(leaf, lane, n, 0), -13);
                Due.is("word(0, leaf, lane, 0, n)", x.word(0, leaf, lane, 0, n), n);
                if (n > 0) Due.is("item(leaf, lane, n - 1, 9)", x.item(leaf, lane, n - 1, 9), 1);
                Due.is("drop(leaf)", x.drop(leaf), n);
                Due.is("drop(leaf)", x.drop(leaf), -11);
            }
            Due.is("leaf(3, lane, 41)", x.leaf(3, lane, 41), -1);
        }
    }

    /** 34: a new row, its items 0, whatever the LEAF held; another LANE, too. */
    private static void rowsMadeAnew() {
        MirrorBench x = Due.bench(2);
        for (int lane = 0; lane < 3; lane++) {
            x.leaf(0, (lane + 1) % 3, 40);
            for (int i = 0; i < 40; i++) x.item(0, (lane + 1) % 3, i, 9);
            for (int n : new int[] {40, 3, 40}) {
                Due.is("leaf(0, lane, n)", x.leaf(0, lane, n), n);
                Due.is("item(0, another lane, 0, 0)", x.item(0, (lane + 1) % 3, 0, 0), -12);
                Due.is("word(0, 0, lane, 0, n)", x.word(0, 0, lane, 0, n), n);
                Due.is("word of a new row", Due.read(x, 0), Due.times("0", n));
            }
            x.item(0, lane, 0, 9);
            x.drop(0);
            x.leaf(0, lane, 1);
            Due.is("word behind drop()", x.word(0, 0, lane, 0, 1), 1);
        }
    }

    /** 36: an item becomes v, its lowest bits: 8, 32, 64 of them. */
    private static void lowestBits() {
        MirrorBench x = Due.bench(3);
        int[] bits = {8, 32};
        for (int lane = 0; lane < 3; lane++) x.leaf(lane, lane, 1);
        for (int lane = 0; lane < 2; lane++) {
            long wrap = 1L << bits[lane];
            long[] twos = {2, wrap + 2, 2 - wrap, 5 * wrap + 2, Long.MIN_VALUE + 2, (Long.MAX_VALUE / wrap) * wrap + 2};
            for (long v : twos) {
                Due.is("item(lane, lane, 0, v)", x.item(lane, lane, 0, v), 1);
                Due.is("word of " + v, x.word(0, lane, lane, 0, 1), 1);
                Due.is("item " + v, x.at(0, 0), 2);
            }
            long[] none = {-1, wrap - 1, wrap / 2, -wrap / 2, wrap / 2 + 1, wrap / 2 - 1, 3, wrap + 3, Long.MAX_VALUE};
            for (long v : none) {
                Due.is("item(lane, lane, 0, v)", x.item(lane, lane, 0, v), 1);
                Due.is("word of " + v, x.word(0, lane, lane, 0, 1), -1);
            }
        }
        for (long v : new long[] {256, 1L << 32, (1L << 32) + 2, Long.MIN_VALUE, Long.MIN_VALUE + 2, Long.MAX_VALUE, -1, 3}) {
            Due.is("item(2, 2, 0, v)", x.item(2, 2, 0, v), 1);
            Due.is("word of " + v, x.word(0, 2, 2, 0, 1), -1);
        }
        Due.is("item(1, 1, 0, 256)", x.item(1, 1, 0, 256), 1);
        Due.is("word of 256", x.word(0, 1, 1, 0, 1), -1);
    }

    /** 37: of each place and number of two rows and of one row with itself, as if all were taken ahead. */
    private static void copyAsIfTakenAhead() {
        for (int lane = 0; lane < 3; lane++) {
            for (int i = 0; i <= 5; i++) {
                for (int j = 0; j <= 5; j++) {
                    copies(lane, i, j);
                }
            }
        }
        MirrorBench x = Due.bench(6);
        x.leaf(0, 0, 0);
        x.leaf(3, 0, 0);
        Due.is("copy(0, 0, 3, 0, 0) of rows of none", x.copy(0, 0, 3, 0, 0), 0);
        Due.is("copy(0, 0, 0, 0, 0) of a row of none", x.copy(0, 0, 0, 0, 0), 0);
        Due.is("copy(0, 1, 3, 0, 0) of rows of none", x.copy(0, 1, 3, 0, 0), -13);
        x.leaf(1, 2, 40);
        x.leaf(2, 2, 40);
        for (int k = 0; k < 40; k++) x.item(1, 2, k, k % 6);
        Due.is("copy(1, 0, 2, 0, 40)", x.copy(1, 0, 2, 0, 40), 40);
        Due.is("word(0, 2, 2, 0, 40)", x.word(0, 2, 2, 0, 40), 40);
        Due.is("all 40", Due.read(x, 0), Due.times("012345", 7).substring(0, 40));
    }

    private static void copies(int lane, int i, int j) {
        for (int n = 0; n <= 6; n++) {
            boolean fits = i + n <= 5 && j + n <= 5;
            String from = "12345";
            String to = "00000";
            MirrorBench x = Due.bench(6);
            x.leaf(0, lane, 5);
            x.leaf(1, lane, 5);
            for (int k = 0; k < 5; k++) x.item(0, lane, k, k + 1);
            String call = "copy(0, " + i + ", 1, " + j + ", " + n + ")";
            Due.is(call, x.copy(0, i, 1, j, n), fits ? n : -13);
            x.word(0, 1, lane, 0, 5);
            String due = fits ? to.substring(0, j) + from.substring(i, i + n) + to.substring(j + n) : to;
            Due.is("row behind " + call, Due.read(x, 0), due);
            Due.is(call + " to itself", x.copy(0, i, 0, j, n), fits ? n : -13);
            x.word(0, 0, lane, 0, 5);
            due = fits ? from.substring(0, j) + from.substring(i, i + n) + from.substring(j + n) : from;
            Due.is("row behind " + call + " to itself", Due.read(x, 0), due);
        }
    }
}
