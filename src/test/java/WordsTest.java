/** Promises 8 to 16: words as they are written. */
public final class WordsTest {
    private static final int MIN = Integer.MIN_VALUE, MAX = Integer.MAX_VALUE;

    public static void main(String[] args) {
        clear();
        put();
        word();
        wordFinds();
        wordOfNone();
        wordFromAnyPlace();
        at();
        times();
        back();
        without();
        cut();
        change();
        Due.end();
    }

    private static void clear() {
        MirrorBench x = Due.bench(2);
        Due.write(x, 7, "010");
        Due.write(x, 0, "1");
        Due.is("clear(7)", x.clear(7), 3);
        Due.is("clear(7)", x.clear(7), 0);
        Due.is("at(0, -1)", x.at(0, -1), 1);
        Due.is("clear(8)", x.clear(8), -1);
        Due.is("clear(-1)", x.clear(-1), -1);
    }

    private static void put() {
        MirrorBench x = Due.bench(2);
        for (int k = 1; k <= 100; k++) Due.is("put(1, k % 2)", x.put(1, k % 2), k);
        Due.is("put(1, 0)", x.put(1, 0), -3);
        Due.is("put(1, 2)", x.put(1, 2), -1);
        Due.is("put(8, 0)", x.put(8, 0), -1);
        Due.is("put(-1, 0)", x.put(-1, 0), -1);
        Due.is("put(0, 2)", x.put(0, 2), -1);
        Due.is("put(0, -1)", x.put(0, -1), -1);
        Due.is("at(0, -1)", x.at(0, -1), 0);
        Due.is("word of 100", Due.read(x, 1), Due.times("10", 50));
    }

    private static void word() {
        MirrorBench x = Due.bench(6);
        for (int lane = 0; lane < 3; lane++) {
            x.leaf(lane, lane, 40);
            for (int i = 0; i < 40; i++) x.item(lane, lane, i, (i + lane) % 6);
            Due.is("word(7, lane, lane, 0, 40)", x.word(7, lane, lane, 0, 40), 40);
            Due.is("word of 40", Due.read(x, 7), Due.times("012345", 7).substring(lane, lane + 40));
            Due.is("word(7, lane, lane, 37, 3)", x.word(7, lane, lane, 37, 3), 3);
            Due.is("word of 3", Due.read(x, 7), Due.times("012345", 8).substring(lane + 37, lane + 40));
        }
        Due.is("word(7, 2, 2, 9, 0)", x.word(7, 2, 2, 9, 0), 0);
        Due.is("at(7, -1)", x.at(7, -1), 0);
        Due.is("word(7, 2, 2, 40, 0)", x.word(7, 2, 2, 40, 0), 0);
        x.item(1, 1, 2, 6);
        x.item(1, 1, 5, -1);
        x.item(2, 2, 2, 1L << 32);
        Due.write(x, 7, "31");
        Due.is("word(7, 1, 1, 0, 3)", x.word(7, 1, 1, 0, 3), -1);
        Due.is("word(7, 1, 1, 3, 3)", x.word(7, 1, 1, 3, 3), -1);
        Due.is("word(7, 2, 2, 2, 1)", x.word(7, 2, 2, 2, 1), -1);
        Due.is("word behind refused calls", Due.read(x, 7), "31");
        Due.is("word(7, 1, 1, 3, 2)", x.word(7, 1, 1, 3, 2), 2);
        Due.is("word of 2", Due.read(x, 7), "45");
    }

    private static void wordFinds() {
        MirrorBench x = Due.bench(1);
        x.leaf(0, 1, 3);
        x.item(0, 1, 1, 9);
        Due.write(x, 0, "0");
        Due.is("word(8, 1, 0, -1, -1)", x.word(8, 1, 0, -1, -1), -1);
        Due.is("word(-1, 0, 1, 0, 1)", x.word(-1, 0, 1, 0, 1), -1);
        Due.is("word(0, 4, 1, 0, 1)", x.word(0, 4, 1, 0, 1), -1);
        Due.is("word(0, -1, 1, 0, 1)", x.word(0, -1, 1, 0, 1), -1);
        Due.is("word(0, 0, 3, 0, 1)", x.word(0, 0, 3, 0, 1), -1);
        Due.is("word(0, 0, -1, 0, 1)", x.word(0, 0, -1, 0, 1), -1);
        Due.is("word(0, 1, 0, -1, -1)", x.word(0, 1, 0, -1, -1), -11);
        Due.is("word(0, 1, 0, 0, 0)", x.word(0, 1, 0, 0, 0), -11);
        Due.is("word(0, 0, 0, -1, -1)", x.word(0, 0, 0, -1, -1), -12);
        Due.is("word(0, 0, 2, 0, 0)", x.word(0, 0, 2, 0, 0), -12);
        Due.is("word(0, 0, 1, -1, -1)", x.word(0, 0, 1, -1, -1), -14);
        Due.is("word(0, 0, 1, 9, MIN)", x.word(0, 0, 1, 9, MIN), -14);
        Due.is("word(0, 0, 1, -1, 1)", x.word(0, 0, 1, -1, 1), -13);
        Due.is("word(0, 0, 1, 3, 1)", x.word(0, 0, 1, 3, 1), -13);
        Due.is("word(0, 0, 1, 0, 4)", x.word(0, 0, 1, 0, 4), -13);
        Due.is("word(0, 0, 1, MAX, MAX)", x.word(0, 0, 1, MAX, MAX), -13);
        Due.is("word(0, 0, 1, 1, MAX)", x.word(0, 0, 1, 1, MAX), -13);
        Due.is("word(0, 0, 1, MIN, 3)", x.word(0, 0, 1, MIN, 3), -13);
        Due.is("word(0, 0, 1, 0, 3)", x.word(0, 0, 1, 0, 3), -1);
        Due.is("word behind refused calls", Due.read(x, 0), "0");
        Due.is("word(0, 0, 1, 2, 1)", x.word(0, 0, 1, 2, 1), 1);
    }

    /** No items, too, are taken from a place of the row, its end at the furthest. */
    private static void wordOfNone() {
        MirrorBench x = Due.bench(2);
        for (int lane = 0; lane < 3; lane++) {
            for (int items : new int[] {0, 1, 2, 39, 40}) {
                x.leaf(lane, lane, items);
                for (int from = -2; from <= 43; from++) {
                    boolean there = from >= 0 && from <= items;
                    Due.write(x, 4, "10");
                    Due.is("word(4, lane, lane, " + from + ", 0) of " + items, x.word(4, lane, lane, from, 0), there ? 0 : -13);
                    Due.is("word from " + from + " of " + items, Due.read(x, 4), there ? "" : "10");
                }
                Due.is("word(4, lane, lane, MAX, 0)", x.word(4, lane, lane, MAX, 0), -13);
                Due.is("word(4, lane, lane, MIN, 0)", x.word(4, lane, lane, MIN, 0), -13);
                Due.is("word(4, lane, lane, MAX, -1)", x.word(4, lane, lane, MAX, -1), -14);
                Due.is("word(8, lane, lane, MAX, 0)", x.word(8, lane, lane, MAX, 0), -1);
                Due.is("word(4, lane, another, MAX, 0)", x.word(4, lane, (lane + 1) % 3, MAX, 0), -12);
            }
            x.drop(lane);
            Due.is("word(4, lane, lane, MAX, 0)", x.word(4, lane, lane, MAX, 0), -11);
        }
        MirrorBench none = new MirrorBench();
        none.leaf(0, 0, 3);
        Due.is("word(0, 0, 0, 3, 0) without mirrors", none.word(0, 0, 0, 3, 0), 0);
        Due.is("word(0, 0, 0, 4, 0) without mirrors", none.word(0, 0, 0, 4, 0), -13);
        Due.is("word(0, 0, 0, 2, 1) without mirrors", none.word(0, 0, 0, 2, 1), -1);
        Due.is("word(0, 0, 0, 3, 1) without mirrors", none.word(0, 0, 0, 3, 1), -13);
    }

    /** Each place and number of items of a row of five; the one at 3 is no mirror. */
    private static void wordFromAnyPlace() {
        MirrorBench x = Due.bench(3);
        int[] items = {2, 0, 1, 7, 2};
        x.leaf(2, 0, 5);
        for (int i = 0; i < 5; i++) x.item(2, 0, i, items[i]);
        for (int from = -3; from <= 8; from++) {
            for (int n = -3; n <= 8; n++) {
                StringBuilder made = new StringBuilder();
                for (int k = from; k < from + n && k >= 0 && k < 5; k++) made.append(items[k]);
                long due = n < 0 ? -14 : from < 0 || from + n > 5 ? -13 : made.indexOf("7") >= 0 ? -1 : n;
                Due.write(x, 6, "012");
                Due.is("word(6, 2, 0, " + from + ", " + n + ")", x.word(6, 2, 0, from, n), due);
                Due.is("word of " + n + " from " + from, Due.read(x, 6), due < 0 ? "012" : made.toString());
            }
        }
    }

    private static void at() {
        MirrorBench x = Due.bench(3);
        Due.write(x, 2, "201");
        Due.is("at(2, 0)", x.at(2, 0), 2);
        Due.is("at(2, 2)", x.at(2, 2), 1);
        Due.is("at(2, -1)", x.at(2, -1), 3);
        Due.is("at(2, 3)", x.at(2, 3), -1);
        Due.is("at(2, -2)", x.at(2, -2), -1);
        Due.is("at(2, MAX)", x.at(2, MAX), -1);
        Due.is("at(2, MIN)", x.at(2, MIN), -1);
        Due.is("at(8, -1)", x.at(8, -1), -1);
        Due.is("at(-1, 0)", x.at(-1, 0), -1);
    }

    private static void times() {
        MirrorBench x = Due.bench(3);
        Due.write(x, 0, "012");
        Due.write(x, 1, "21");
        Due.is("times(0, 1, 2)", x.times(0, 1, 2), 5);
        Due.is("word of times(0, 1, 2)", Due.read(x, 2), "01221");
        Due.is("times(0, 1, 1)", x.times(0, 1, 1), 5);
        Due.is("word of times(0, 1, 1)", Due.read(x, 1), "01221");
        Due.is("times(0, 0, 0)", x.times(0, 0, 0), 6);
        Due.is("word of times(0, 0, 0)", Due.read(x, 0), "012012");
        Due.is("times(0, 1, 0)", x.times(0, 1, 0), 11);
        Due.is("word of times(0, 1, 0)", Due.read(x, 0), "01201201221");
        Due.write(x, 3, Due.times("01", 45));
        Due.write(x, 4, "2222222222");
        Due.is("times(4, 3, 5)", x.times(4, 3, 5), 100);
        Due.is("times(0, 3, 5)", x.times(0, 3, 5), -3);
        Due.is("word of times(4, 3, 5)", Due.read(x, 5), "2222222222" + Due.times("01", 45));
        Due.is("times(8, 0, 0)", x.times(8, 0, 0), -1);
        Due.is("times(0, 8, 0)", x.times(0, 8, 0), -1);
        Due.is("times(5, 5, 8)", x.times(5, 5, 8), -1);
        Due.is("times(5, -1, 1)", x.times(5, -1, 1), -1);
    }

    private static void back() {
        MirrorBench x = Due.bench(3);
        Due.write(x, 0, "0012");
        Due.is("back(0, 1)", x.back(0, 1), 4);
        Due.is("word of back(0, 1)", Due.read(x, 1), "2100");
        Due.is("back(0, 0)", x.back(0, 0), 4);
        Due.is("word of back(0, 0)", Due.read(x, 0), "2100");
        Due.is("back(2, 0)", x.back(2, 0), 0);
        Due.is("at(0, -1)", x.at(0, -1), 0);
        Due.is("back(8, 0)", x.back(8, 0), -1);
        Due.is("back(0, 8)", x.back(0, 8), -1);
        Due.is("back(-1, 0)", x.back(-1, 0), -1);
        Due.is("back(0, -1)", x.back(0, -1), -1);
    }

    private static void without() {
        MirrorBench x = Due.bench(3);
        x.kind(1, 2);
        x.kind(2, 1);
        Due.write(x, 0, "1012211");
        Due.is("without(0, 1)", x.without(0, 1), 3);
        Due.is("word of without(0, 1)", Due.read(x, 1), "022");
        Due.is("word behind without(0, 1)", Due.read(x, 0), "1012211");
        Due.write(x, 2, "0112");
        Due.is("without(2, 2)", x.without(2, 2), 2);
        Due.is("word of without(2, 2)", Due.read(x, 2), "02");
        x.kind(0, 2);
        Due.is("without(0, 0)", x.without(0, 0), 2);
        Due.is("word of without(0, 0)", Due.read(x, 0), "22");
        Due.is("without(8, 0)", x.without(8, 0), -1);
        Due.is("without(0, 8)", x.without(0, 8), -1);
        Due.is("without(-1, 0)", x.without(-1, 0), -1);
    }

    private static void cut() {
        MirrorBench x = Due.bench(3);
        Due.write(x, 0, "011200");
        Due.is("cut(0, 0)", x.cut(0, 0), -2);
        Due.is("cut(0, 5)", x.cut(0, 5), -1);
        Due.is("cut(0, -1)", x.cut(0, -1), -1);
        Due.is("cut(0, MAX)", x.cut(0, MAX), -1);
        Due.is("cut(0, MIN)", x.cut(0, MIN), -1);
        Due.is("cut(8, 0)", x.cut(8, 0), -1);
        Due.is("cut(1, 0)", x.cut(1, 0), -1);
        Due.is("word behind refused calls", Due.read(x, 0), "011200");
        Due.is("cut(0, 1)", x.cut(0, 1), 4);
        Due.is("word of cut(0, 1)", Due.read(x, 0), "0200");
        Due.is("cut(0, 2)", x.cut(0, 2), 2);
        Due.is("word of cut(0, 2)", Due.read(x, 0), "02");
        Due.write(x, 0, Due.times("2", 100));
        Due.is("cut(0, 98)", x.cut(0, 98), 98);
        Due.is("cut(0, 0)", x.cut(0, 0), 96);
        Due.write(x, 1, "11");
        Due.is("cut(1, 0)", x.cut(1, 0), 0);
    }

    private static void change() {
        MirrorBench x = Due.bench(6, Due.meet(0, 1, 1, 1), Due.meet(1, 2, 2, 1), Due.meet(2, 3, 1, 3), Due.meet(3, 4, 2, 2));
        Due.write(x, 0, "05010123232323434");
        Due.is("change(0, 0)", x.change(0, 0), 2);
        Due.is("word of change(0, 0)", Due.read(x, 0), "50010123232323434");
        Due.is("change(0, 1)", x.change(0, 1), -2);
        Due.is("change(0, 2)", x.change(0, 2), 3);
        Due.is("word of change(0, 2)", Due.read(x, 0), "50101123232323434");
        Due.is("change(0, 5)", x.change(0, 5), -2);
        Due.is("change(0, 6)", x.change(0, 6), 6);
        Due.is("word of change(0, 6)", Due.read(x, 0), "50101132323223434");
        Due.is("change(0, 7)", x.change(0, 7), -2);
        Due.is("change(0, 13)", x.change(0, 13), -2);
        Due.is("change(0, 16)", x.change(0, 16), -1);
        Due.is("change(0, -1)", x.change(0, -1), -1);
        Due.is("change(0, MAX)", x.change(0, MAX), -1);
        Due.is("change(8, 0)", x.change(8, 0), -1);
        Due.is("change(1, 0)", x.change(1, 0), -1);
        Due.is("word behind refused calls", Due.read(x, 0), "50101132323223434");
        Due.write(x, 1, "1212");
        Due.is("change(1, 0)", x.change(1, 0), 4);
        Due.is("word of change(1, 0)", Due.read(x, 1), "2121");
        Due.is("change(1, 1)", x.change(1, 1), -2);
        Due.write(x, 1, "21");
        Due.is("change(1, 0) of a word that was longer", x.change(1, 0), -2);
        Due.write(x, 1, "51212");
        x.clear(1);
        Due.write(x, 1, "512");
        Due.is("change(1, 1) of a word that was longer", x.change(1, 1), -2);
        Due.write(x, 1, "2122");
        Due.is("change(1, 0)", x.change(1, 0), -2);
        Due.write(x, 1, "2112");
        Due.is("change(1, 0)", x.change(1, 0), -2);
    }
}
