/** Promises 17 to 23: short words, forms, downs, what words do, orders, what lies below. */
public final class ShortTest {
    private static final long BAD = -10000000000001L, GREAT = -10000000000004L;

    public static void main(String[] args) {
        shorten();
        form();
        same();
        downs();
        does();
        order();
        below();
        withoutMirrors();
        tooGreat();
        greatLine();
        justGreat();
        orderJustGreat();
        Due.end();
    }

    /** Three mirrors in a line, of which the first two meet at 3, the others at 4. */
    private static MirrorBench line() {
        return Due.bench(3, Due.meet(0, 1, 1, 1), Due.meet(1, 2, 2, 1));
    }

    private static MirrorBench never() {
        return Due.bench(3, Due.meet(0, 1, 4, 1), Due.meet(1, 2, 4, 1), Due.meet(2, 0, 4, 1));
    }

    private static void shorten() {
        MirrorBench x = line();
        String[][] shorts = {{"", ""}, {"00", ""}, {"0", "0"}, {"02", "02"}, {"20", "20"}, {"0101", "10"}, {"01010", "1"},
            {"2121212", "1"}, {"212121", "12"}, {"20121", "20121"}, {"0120", "0120"}, {"01201", "01201"}, {"022010", "10"}};
        for (String[] pair : shorts) {
            Due.write(x, 0, pair[0]);
            Due.is("shorten(0, 1) of " + pair[0], x.shorten(0, 1), pair[1].length());
            Due.is("word of shorten " + pair[0], Due.read(x, 1), pair[1]);
            Due.is("word behind shorten " + pair[0], Due.read(x, 0), pair[0]);
        }
        Due.write(x, 3, "1010");
        Due.is("shorten(3, 3)", x.shorten(3, 3), 2);
        Due.is("word of shorten(3, 3)", Due.read(x, 3), "01");
        Due.is("shorten(8, 0)", x.shorten(8, 0), -1);
        Due.is("shorten(-1, 0)", x.shorten(-1, 0), -1);
        Due.is("shorten(0, 8)", x.shorten(0, 8), -1);
        Due.is("shorten(0, -1)", x.shorten(0, -1), -1);
    }

    private static void form() {
        MirrorBench x = line();
        String[][] forms = {{"", ""}, {"00", ""}, {"20", "02"}, {"101", "010"}, {"2121", "1212"}, {"0101", "10"},
            {"2010", "0210"}, {"1012", "0102"}, {"012012012", "010210212"}};
        for (String[] pair : forms) {
            Due.write(x, 0, pair[0]);
            Due.is("form(0, 1) of " + pair[0], x.form(0, 1), pair[1].length());
            Due.is("word of form " + pair[0], Due.read(x, 1), pair[1]);
            Due.is("word behind form " + pair[0], Due.read(x, 0), pair[0]);
        }
        Due.write(x, 3, "1011");
        Due.is("form(3, 3)", x.form(3, 3), 2);
        Due.is("word of form(3, 3)", Due.read(x, 3), "10");
        Due.is("form(8, 0)", x.form(8, 0), -1);
        Due.is("form(-1, 0)", x.form(-1, 0), -1);
        Due.is("form(0, 8)", x.form(0, 8), -1);
        Due.is("form(0, -1)", x.form(0, -1), -1);
    }

    private static void same() {
        MirrorBench x = line();
        Due.write(x, 0, "101");
        Due.write(x, 1, "0102");
        Due.write(x, 2, "01022001");
        Due.is("shorten(2, 2)", x.shorten(2, 2), 2);
        Due.write(x, 2, "0102200");
        Due.write(x, 3, "011");
        Due.is("same(0, 2)", x.same(0, 2), 1);
        Due.is("same(0, 1)", x.same(0, 1), 0);
        Due.is("same(1, 3)", x.same(1, 3), 0);
        Due.is("same(3, 4)", x.same(3, 4), 0);
        Due.is("same(4, 5)", x.same(4, 5), 1);
        Due.is("same(1, 1)", x.same(1, 1), 1);
        Due.write(x, 5, "0");
        Due.is("same(3, 5)", x.same(3, 5), 1);
        Due.is("same(8, 0)", x.same(8, 0), -1);
        Due.is("same(0, 8)", x.same(0, 8), -1);
        Due.is("same(-1, 0)", x.same(-1, 0), -1);
    }

    private static void downs() {
        MirrorBench x = line();
        Object[][] rows = {{"", 0, 0}, {"0", 1, 1}, {"02", 5, 5}, {"012", 4, 1}, {"210", 1, 4}, {"010", 3, 3},
            {"1212", 6, 6}, {"01002", 4, 1}, {"00", 0, 0}, {"010210212", 7, 7}};
        for (Object[] row : rows) {
            Due.write(x, 2, (String) row[0]);
            Due.is("downs(2, false) of " + row[0], x.downs(2, false), (int) row[1]);
            Due.is("downs(2, true) of " + row[0], x.downs(2, true), (int) row[2]);
            Due.is("word behind downs " + row[0], Due.read(x, 2), (String) row[0]);
        }
        Due.is("downs(8, false)", x.downs(8, false), -1);
        Due.is("downs(-1, true)", x.downs(-1, true), -1);
    }

    private static void does() {
        MirrorBench x = line();
        Due.write(x, 0, "0");
        Due.is("does(0, 0, 0)", x.does(0, 0, 0), -1);
        Due.is("does(0, 1, 0)", x.does(0, 1, 0), 1);
        Due.is("does(0, 1, 1)", x.does(0, 1, 1), 1);
        Due.is("does(0, 2, 0)", x.does(0, 2, 0), 0);
        Due.write(x, 0, "1");
        Due.is("does of 1 to OWN of 2", x.does(0, 2, 1), 2);
        Due.write(x, 0, "2");
        Due.is("does of 2 to OWN of 1", x.does(0, 1, 2), 1);
        Due.write(x, 0, "01");
        Due.is("does of 01 to OWN of 2, 0", x.does(0, 2, 0), 2);
        Due.is("does of 01 to OWN of 2, 1", x.does(0, 2, 1), 2);
        Due.is("does of 01 to OWN of 2, 2", x.does(0, 2, 2), 1);
        Due.is("does of nothing", x.does(1, 2, 2), 1);
        Due.is("does(8, 0, 0)", x.does(8, 0, 0), BAD);
        Due.is("does(-1, 0, 0)", x.does(-1, 0, 0), BAD);
        Due.is("does(0, 3, 0)", x.does(0, 3, 0), BAD);
        Due.is("does(0, -1, 0)", x.does(0, -1, 0), BAD);
        Due.is("does(0, 0, 3)", x.does(0, 0, 3), BAD);
        Due.is("does(0, 0, -1)", x.does(0, 0, -1), BAD);
    }

    private static void order() {
        MirrorBench x = line();
        String[] words = {"", "0", "02", "01", "12", "012", "010210212", "00"};
        int[] orders = {1, 2, 2, 3, 4, 6, 2, 1};
        for (int k = 0; k < words.length; k++) {
            Due.write(x, 4, words[k]);
            Due.is("order(4) of " + words[k], x.order(4), orders[k]);
        }
        Due.is("order(8)", x.order(8), -1);
        Due.is("order(-1)", x.order(-1), -1);
        MirrorBench y = Due.bench(6, Due.meet(0, 1, 1, 1), Due.meet(1, 2, 1, 1), Due.meet(2, 3, 1, 1), Due.meet(4, 5, 1, 1));
        Due.write(y, 0, "012345");
        Due.is("order of 5 and 3", y.order(0), 15);
        MirrorBench z = Due.bench(6, Due.meet(0, 1, 1, 1), Due.meet(1, 2, 1, 1), Due.meet(2, 3, 1, 1), Due.meet(4, 5, 1, 3));
        Due.write(z, 0, "012345");
        Due.is("order of 5 and 6", z.order(0), 30);
        MirrorBench e = Due.bench(2, Due.meet(0, 1, 2, 2));
        Due.write(e, 0, "01");
        Due.is("order without an end", e.order(0), -2);
    }

    private static void below() {
        MirrorBench x = line();
        String[][] pairs = {{"", "", "1"}, {"", "012", "1"}, {"0", "", "0"}, {"02", "012", "1"}, {"20", "012", "1"},
            {"10", "012", "0"}, {"21", "012", "0"}, {"11", "0", "1"}, {"0", "11", "0"}, {"012", "012", "1"},
            {"101", "0102", "1"}, {"212", "1212", "1"}, {"1212", "212", "0"}, {"0", "1001", "0"}, {"1", "010", "1"}};
        for (String[] pair : pairs) {
            Due.write(x, 0, pair[0]);
            Due.write(x, 1, pair[1]);
            Due.is("below(0, 1) of " + pair[0] + ", " + pair[1], x.below(0, 1), pair[2].charAt(0) - '0');
            Due.is("words behind below", Due.read(x, 0) + "," + Due.read(x, 1), pair[0] + "," + pair[1]);
        }
        Due.is("below(8, 0)", x.below(8, 0), -1);
        Due.is("below(0, 8)", x.below(0, 8), -1);
        Due.is("below(-1, 0)", x.below(-1, 0), -1);
    }

    private static void withoutMirrors() {
        MirrorBench x = new MirrorBench();
        Due.is("shorten(0, 1)", x.shorten(0, 1), 0);
        Due.is("form(0, 1)", x.form(0, 1), 0);
        Due.is("same(0, 1)", x.same(0, 1), 1);
        Due.is("downs(0, true)", x.downs(0, true), 0);
        Due.is("does(0, 0, 0)", x.does(0, 0, 0), BAD);
        Due.is("order(0)", x.order(0), 1);
        Due.is("below(0, 1)", x.below(0, 1), 1);
    }

    private static void tooGreat() {
        MirrorBench x = never();
        Due.write(x, 0, Due.times("012", 33));
        Due.write(x, 1, "01");
        Due.write(x, 2, "00");
        Due.is("shorten(0, 1)", x.shorten(0, 1), -4);
        Due.is("form(0, 1)", x.form(0, 1), -4);
        Due.is("same(0, 2)", x.same(0, 2), -4);
        Due.is("same(2, 0)", x.same(2, 0), -4);
        Due.is("same(0, 0)", x.same(0, 0), -4);
        Due.is("downs(0, false)", x.downs(0, false), -4);
        Due.is("downs(0, true)", x.downs(0, true), -4);
        Due.is("does(0, 2, 0)", x.does(0, 2, 0), GREAT);
        Due.is("order(0)", x.order(0), -4);
        Due.is("below(0, 2)", x.below(0, 2), -4);
        Due.is("below(2, 0)", x.below(2, 0), -4);
        Due.is("shorten(0, 8)", x.shorten(0, 8), -1);
        Due.is("form(8, 0)", x.form(8, 0), -1);
        Due.is("does(0, 2, 3)", x.does(0, 2, 3), BAD);
        Due.is("word behind GREAT", Due.read(x, 1), "01");
        Due.is("order of a short word", x.order(1), -2);
        Due.write(x, 3, "012");
        Due.is("order of 012", x.order(3), -4);
        // Words that end early in turning are not GREAT, however long.
        Due.write(x, 4, Due.times("0110", 25));
        Due.is("shorten(4, 1)", x.shorten(4, 1), 0);
    }

    /** The very turn at which a number goes beyond 10^12 in size, on either side. */
    private static void greatLine() {
        Model m = new Model(3, new int[][] {{0, 4, 1}, {1, 0, 4}, {4, 1, 0}});
        MirrorBench x = m.bench();
        for (int n = 1; n < 60; n++) {
            String word = Due.times("012", 20).substring(0, n);
            Due.write(x, 0, word);
            for (int i = 0; i < 3; i++) {
                for (int j = 0; j < 3; j++) {
                    long want;
                    try {
                        want = m.toldDoes(word, i, j);
                    } catch (Model.Great great) {
                        want = GREAT;
                    }
                    Due.is("does(0, " + i + ", " + j + ") of " + word, x.does(0, i, j), want);
                }
            }
            int want;
            try {
                want = m.toldShort(word).length();
            } catch (Model.Great great) {
                want = -4;
            }
            Due.is("shorten(0, 1) of " + word, x.shorten(0, 1), want);
        }
    }

    /** A number of just 10^12 is not GREAT, on either side of 0: 625000000 times 4, and that times 20 times 20. */
    private static void justGreat() {
        MirrorBench x = Due.bench(6, Due.meet(1, 0, 1, 4), Due.meet(2, 0, 1, 1), Due.meet(2, 1, 1, 3), Due.meet(3, 0, 4, 1),
            Due.meet(3, 1, 1, 4), Due.meet(3, 2, 4, 1), Due.meet(4, 0, 4, 1), Due.meet(4, 5, 2, 2));
        String first = "0201020312120130312010302";
        String word = "4" + Due.times("54", 19) + first;
        Due.write(x, 0, first);
        Due.is("does of the first part", x.does(0, 0, 0), 625000000L);
        Due.write(x, 0, word);
        Due.is("does of just 10^12", x.does(0, 0, 4), 1000000000000L);
        Due.write(x, 1, word + "0");
        Due.is("does of just 10^12 below 0", x.does(1, 0, 4), -1000000000000L);
        Due.write(x, 0, "5" + word);
        Due.is("does of more", x.does(0, 0, 4), GREAT);
        Due.write(x, 1, "5" + word + "0");
        Due.is("does of more below 0", x.does(1, 0, 4), GREAT);
    }

    /** Thirty times are looked through: what is GREAT at the 31st is not found. */
    private static void orderJustGreat() {
        MirrorBench x = Due.bench(5, Due.meet(1, 0, 1, 1), Due.meet(2, 0, 1, 2), Due.meet(2, 1, 4, 1), Due.meet(3, 0, 1, 2),
            Due.meet(4, 1, 3, 1));
        Due.write(x, 0, "4103");
        Due.is("order of a word GREAT at the 31st time", x.order(0), -2);
        MirrorBench y = Due.bench(4, Due.meet(2, 0, 1, 1), Due.meet(2, 1, 1, 2), Due.meet(3, 2, 2, 1));
        Due.write(y, 0, "1320");
        Due.is("order of a word GREAT at the 30th time", y.order(0), -4);
    }
}
