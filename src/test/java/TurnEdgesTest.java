/**
 * As EdgesTest, for promises 17 to 33: short words, roots and all words, parts and chambers at the edges that the document
 * names and where a call still goes well.
 */
public final class TurnEdgesTest {
    private static final int[] TWO_TWO = Due.meet(0, 1, 2, 2);

    public static void main(String[] args) {
        shortOfNoneAndOfAHundred();
        whatGoesIsFirstOrLast();
        formsBeginAgainWithTheLeast();
        sameOnes();
        downsOfNoneAndOfAll();
        doesOfNone();
        turnedAsTold();
        justGreatOrNot();
        shortButGreatBehind();
        ordersOfOneToThirty();
        belowNoneAndItself();
        heightsOfOneToForty();
        rootsInOrder();
        setsThatJustEnd();
        setsOfManyRoots();
        longestOfAll();
        formsOfNoneToTwelve();
        setsOfNoneAndOfAll();
        thePart();
        partsToEitherSlot();
        waysOfNoneAndOfAHundred();
        wallsAtEitherEnd();
        kindsTurnAlike();
        Due.end();
    }

    private static MirrorBench line(int mirrors) {
        MirrorBench x = Due.bench(mirrors);
        for (int i = 1; i < mirrors; i++) x.meet(i - 1, i, 1, 1);
        return x;
    }

    // ---- 3 short ones

    private static void shorts(MirrorBench x, String word, String made, String form) {
        Due.write(x, 0, word);
        Due.is("shorten(0, 7) of " + word, x.shorten(0, 7), made.length());
        Due.is("SHORT of " + word, Due.read(x, 7), made);
        Due.is("form(0, 7) of " + word, x.form(0, 7), form.length());
        Due.is("FORM of " + word, Due.read(x, 7), form);
        Due.is("word behind", Due.read(x, 0), word);
        Due.is("shorten(0, 0) of " + word, x.shorten(0, 0), made.length());
        Due.is("SHORT of " + word + " in its own slot", Due.read(x, 0), made);
        Due.write(x, 0, word);
        Due.is("form(0, 0) of " + word, x.form(0, 0), form.length());
        Due.is("FORM of " + word + " in its own slot", Due.read(x, 0), form);
    }

    /** 17, 18: R is empty at first; LENGTH 0 and 100, and of 100 MIRRORS 0. */
    private static void shortOfNoneAndOfAHundred() {
        MirrorBench x = Due.bench(2, TWO_TWO);
        shorts(x, "", "", "");
        shorts(x, "1", "1", "1");
        shorts(x, "11", "", "");
        shorts(x, Due.times("1", 99), "1", "1");
        shorts(x, Due.times("1", 100), "", "");
        shorts(x, Due.times("10", 50), Due.times("10", 50), Due.times("10", 50));
        shorts(x, Due.times("01", 50), Due.times("01", 50), Due.times("01", 50));
        shorts(x, Due.times("01", 25) + Due.times("10", 25), "", "");
        shorts(x, Due.times("01", 25) + Due.times("10", 24) + "01", "0101", "0101");
        shorts(Due.bench(2, Due.meet(0, 1, 4, 1)), Due.times("10", 50), Due.times("10", 50), Due.times("10", 50));
    }

    /** 17: what goes is the last of R, the first, one in the midst; then s is done. */
    private static void whatGoesIsFirstOrLast() {
        MirrorBench x = line(3);
        shorts(x, "0100", "01", "01");
        shorts(x, "0101", "10", "10");
        shorts(x, "020", "2", "2");
        shorts(x, "2101", "2101", "0210");
        shorts(x, "10101", "0", "0");
        shorts(x, "12121", "2", "2");
        shorts(x, "2002", "", "");
        MirrorBench alone = Due.bench(6);
        shorts(alone, "543210", "543210", "012345");
        shorts(alone, "5432105", "43210", "01234");
        shorts(alone, "5432103", "54210", "01245");
        shorts(alone, "5432100", "54321", "12345");
        shorts(alone, "543210543210", "", "");
    }

    /** 18: as one goes, it begins with 0 again; F is the first of all SAME ones of fewest MIRRORS. */
    private static void formsBeginAgainWithTheLeast() {
        MirrorBench x = line(4);
        shorts(x, "3210", "3210", "3210");
        shorts(x, "3012", "3012", "0132");
        shorts(x, "2031", "2031", "0213");
        shorts(x, "212", "212", "121");
        shorts(x, "323212321", "123", "123");
        shorts(x, "32103210", "210321", "210321");
        shorts(x, "3231213230", "2120", "1210");
    }

    /** 19: whether both DO the same to each OWN, however they are told; a SLOT with itself. */
    private static void sameOnes() {
        String[] turns = {"01", "010", "0101", "010101"};
        String[] others = {"10", "101", "1010", "101010"};
        int[][] numbers = {{0, 0}, {1, 1}, {2, 1}, {1, 3}, {2, 2}};
        for (int set = 0; set < numbers.length; set++) {
            MirrorBench x = Due.bench(2, Due.meet(0, 1, numbers[set][0], numbers[set][1]));
            Due.is("same(0, 1): none and none", x.same(0, 1), 1);
            Due.is("same(0, 0): none", x.same(0, 0), 1);
            for (int k = 0; k < 4; k++) {
                Due.write(x, 0, turns[k]);
                Due.write(x, 1, others[k]);
                boolean same = set == k || k == 2 && set == 0 || k == 3 && set < 2;
                Due.is("same(0, 1) of " + turns[k] + " in set " + set, x.same(0, 1), same ? 1 : 0);
                Due.is("same(1, 0) of " + turns[k] + " in set " + set, x.same(1, 0), same ? 1 : 0);
                Due.is("same(0, 0)", x.same(0, 0), 1);
                Due.is("same(0, 2) of " + turns[k] + " and none", x.same(0, 2), k == 2 && set == 0 || k == 3 && set == 1 ? 1 : 0);
            }
        }
        MirrorBench y = Due.bench(2, TWO_TWO);
        Due.write(y, 0, Due.times("01", 50));
        Due.write(y, 1, Due.times("01", 50));
        Due.is("same(0, 1) of 100", y.same(0, 1), 1);
        Due.write(y, 1, Due.times("10", 50));
        Due.is("same(0, 1) of 100 and another 100", y.same(0, 1), 0);
        Due.write(y, 1, Due.times("01", 49));
        Due.is("same(0, 1) of 100 and 98", y.same(0, 1), 0);
        Due.write(y, 1, Due.times("1", 100));
        Due.is("same(1, 2) of 100 alike ones and none", y.same(1, 2), 1);
    }

    /** 20: of the empty WORD none, of the longest all; MIRROR 5 is bit 32; of SHORT of the WORD. */
    private static void downsOfNoneAndOfAll() {
        MirrorBench x = Due.bench(6);
        String[] words = {"", "5", "0", "543210", "0220", "55", "531", Due.times("012345", 16) + "0123"};
        int[] bits = {0, 32, 1, 63, 0, 0, 42, 15};
        for (int k = 0; k < words.length; k++) {
            Due.write(x, 0, words[k]);
            Due.is("downs(0, false) of " + words[k], x.downs(0, false), bits[k]);
            Due.is("downs(0, true) of " + words[k], x.downs(0, true), bits[k]);
        }
        MirrorBench y = line(6);
        Due.write(y, 0, "012345");
        Due.is("downs(0, false)", y.downs(0, false), 32);
        Due.is("downs(0, true)", y.downs(0, true), 1);
        Due.is("longest(1)", y.longest(1), 21);
        Due.is("downs(1, false) of the longest", y.downs(1, false), 63);
        Due.is("downs(1, true) of the longest", y.downs(1, true), 63);
        MirrorBench z = Due.bench(2, TWO_TWO);
        Due.write(z, 0, Due.times("01", 50));
        Due.is("downs(0, false) of 100", z.downs(0, false), 2);
        Due.is("downs(0, true) of 100", z.downs(0, true), 1);
        Due.is("downs(7, true) without mirrors", new MirrorBench().downs(7, true), 0);
    }

    /** 21: the empty WORD leaves each OWN as it is: 1 at i, 0 else. */
    private static void doesOfNone() {
        MirrorBench x = sixes(6);
        for (int i = 0; i < 6; i++) {
            for (int j = 0; j < 6; j++) {
                Due.is("does(7, " + i + ", " + j + ") of none", x.does(7, i, j), i == j ? 1 : 0);
                Due.write(x, 0, "" + i + i);
                Due.is("does(0, " + i + ", " + j + ") twice", x.does(0, i, j), i == j ? 1 : 0);
                Due.write(x, 0, "" + i);
                Due.is("does(0, " + i + ", " + j + ") once", x.does(0, i, j), i == j ? -1 : 0);
            }
        }
    }

    private static MirrorBench sixes(int n) {
        MirrorBench x = Due.bench(n);
        for (int i = 0; i < n; i++) {
            for (int j = 0; j < i; j++) x.meet(i, j, 3, 1);
        }
        return x;
    }

    /** TURNED by i: less itself, and M(i, j) times number j more; from the last MIRROR of a WORD to the first one. */
    private static void turnedAsTold() {
        MirrorBench x = Due.bench(3, Due.meet(0, 1, 1, 3), Due.meet(1, 2, 2, 1), Due.meet(0, 2, 4, 1));
        Object[][] rows = {{"0", 1, "1 1 0"}, {"1", 0, "1 3 0"}, {"0", 2, "4 0 1"}, {"2", 0, "1 0 1"}, {"1", 2, "0 2 1"},
            {"2", 1, "0 1 1"}, {"01", 0, "2 3 0"}, {"10", 0, "-1 -3 0"}, {"01", 2, "6 2 1"}, {"10", 2, "4 14 1"},
            {"210", 0, "-1 -3 -4"}, {"012", 0, "8 5 1"}, {"012012", 0, "83 43 12"}};
        for (Object[] row : rows) {
            Due.write(x, 0, (String) row[0]);
            String numbers = x.does(0, (int) row[1], 0) + " " + x.does(0, (int) row[1], 1) + " " + x.does(0, (int) row[1], 2);
            Due.is("does of " + row[0] + " to OWN of " + row[1], numbers, (String) row[2]);
        }
    }

    /** Beyond 10^12 in size is GREAT, just 10^12 is not: by the last turn of each of both words. */
    private static void justGreatOrNot() {
        int[][] numbers = {{0, 4, 2, 1, 1, 1}, {1, 0, 2, 1, 1, 0}, {2, 2, 0, 0, 1, 1}, {2, 3, 0, 0, 2, 1}, {3, 3, 1, 2, 0, 1},
            {1, 0, 4, 4, 1, 0}};
        edge(new Model(6, numbers), "543434343434343431202020120212120120202120", false);
        int[][] more = {{0, 3, 1, 1, 1, 1}, {1, 0, 4, 0, 1, 1}, {3, 1, 0, 0, 1, 1}, {2, 0, 0, 0, 2, 1}, {3, 2, 2, 2, 0, 1},
            {4, 3, 3, 4, 4, 0}};
        edge(new Model(6, more), "5434343434343021210120101201202020121", true);
    }

    /** Of a word whose first mirror, 5, makes number 5 of what it DOES to OWN of 2 just 10^12, or 1 more. */
    private static void edge(Model m, String word, boolean great) {
        long down = 10000000000000L;
        long most = 1000000000000L;
        Due.is("the number", m.image(word, m.own(2))[5].longValueExact(), great ? most + 1 : most);
        MirrorBench x = m.bench();
        Due.write(x, 0, word);
        Due.write(x, 1, word + "2");
        Due.write(x, 2, word.substring(1));
        Due.write(x, 3, word.substring(1) + "2");
        Due.is("does(0, 2, 5)", x.does(0, 2, 5), great ? -4 - down : most);
        Due.is("does(1, 2, 5), below 0", x.does(1, 2, 5), great ? -4 - down : -most);
        Due.is("does(0, 2, 2), another number", x.does(0, 2, 2), great ? -4 - down : m.toldDoes(word, 2, 2));
        Due.is("does(2, 2, 5) ahead of that turn", x.does(2, 2, 5), 0);
        int length = word.length();
        Due.is("shorten(0, 7)", x.shorten(0, 7), length);
        Due.is("shorten(1, 7)", x.shorten(1, 7), great ? -4 : length + 1);
        Due.is("shorten(3, 7)", x.shorten(3, 7), length);
        Due.is("form(1, 7)", x.form(1, 7), great ? -4 : length + 1);
        Due.is("same(1, 1)", x.same(1, 1), great ? -4 : 1);
        Due.is("below(4, 1)", x.below(4, 1), great ? -4 : 1);
        Due.is("parts(1, 0, 5, 6)", x.parts(1, 0, 5, 6), great ? -4 : 0);
        Due.is("way(4, 1, 7)", x.way(4, 1, 7), great ? -4 : length + 1);
        Due.is("way(0, 1, 7)", x.way(0, 1, 7), 1);
        Due.is("wall(0, 1, 0, 5)", x.wall(0, 1, 0, 5), great ? -4 - down : most);
        Due.is("wall(2, 3, 0, 5)", x.wall(2, 3, 0, 5), 0);
    }

    /** 18, 19, 20, 23, 31: SHORT of a WORD goes well, but what is asked of it TURNS what is GREAT. */
    private static void shortButGreatBehind() {
        int[][] numbers = {{0, 4, 2, 1, 1, 1}, {1, 0, 2, 1, 1, 0}, {2, 2, 0, 0, 1, 1}, {2, 3, 0, 0, 2, 1}, {3, 3, 1, 2, 0, 1},
            {1, 0, 4, 4, 1, 0}};
        MirrorBench x = new Model(6, numbers).bench();
        String word = "543434343434343431202020120212120120202120";
        Due.write(x, 0, word);
        Due.write(x, 1, Model.inverted(word));
        Due.write(x, 2, "1");
        Due.write(x, 3, "0");
        Due.write(x, 4, "4");
        for (int slot = 0; slot < 2; slot++) {
            Due.is("shorten(slot, 7)", x.shorten(slot, 7), 42);
            Due.is("form(slot, 7)", x.form(slot, 7), 42);
            Due.is("downs(slot, false)", x.downs(slot, false), slot == 0 ? -4 : 32);
            Due.is("downs(slot, true)", x.downs(slot, true), slot == 0 ? 32 : -4);
        }
        Due.is("below(0, 2)", x.below(0, 2), -4);
        Due.is("below(0, 4)", x.below(0, 4), -4);
        Due.is("below(0, 3)", x.below(0, 3), 0);
        Due.is("below(2, 0)", x.below(2, 0), 1);
        Due.is("parts(1, 2, 5, 6)", x.parts(1, 2, 5, 6), -4);
        Due.is("parts(1, 16, 5, 6)", x.parts(1, 16, 5, 6), -4);
        Due.is("at(5, -1)", x.at(5, -1), 0);
        Due.is("parts(1, 1, 5, 6)", x.parts(1, 1, 5, 6), 1);
        Due.is("parts(1, 4, 5, 6)", x.parts(1, 4, 5, 6), 0);
        int[][] more = {{0, 3, 1, 1, 1, 1}, {1, 0, 4, 0, 1, 1}, {3, 1, 0, 0, 1, 1}, {2, 0, 0, 0, 2, 1}, {3, 2, 2, 2, 0, 1},
            {4, 3, 3, 4, 4, 0}};
        MirrorBench y = new Model(6, more).bench();
        Due.write(y, 0, "1210202021021010210121203434343434345");
        Due.is("shorten(0, 7)", y.shorten(0, 7), 37);
        Due.is("form(0, 7)", y.form(0, 7), -4);
        Due.is("same(0, 1)", y.same(0, 1), -4);
        Due.is("same(1, 0)", y.same(1, 0), -4);
        Due.is("downs(0, false)", y.downs(0, false), 32);
        Due.is("downs(0, true)", y.downs(0, true), -4);
        Due.is("parts(0, 0, 1, 2)", y.parts(0, 0, 1, 2), -4);
        Due.is("way(1, 0, 2)", y.way(1, 0, 2), -4);
        Due.is("wall(1, 0, 0, 0)", y.wall(1, 0, 0, 0), -10000000000004L);
    }

    /** 22: 1 without MIRRORS and of the empty WORD; each angle; 30, the greatest that there is; of a WORD of 100. */
    private static void ordersOfOneToThirty() {
        Due.is("order(0) without mirrors", new MirrorBench().order(0), 1);
        MirrorBench x = Due.bench(6, Due.meet(0, 1, 1, 1), Due.meet(2, 3, 1, 2), Due.meet(4, 5, 3, 1));
        String[] words = {"", "00", "0", "5", "02", "01", "23", "45", "0123", "0145", "012", "23451", Due.times("01", 50),
            Due.times("01", 48) + "0123", Due.times("0", 99), Due.times("012345", 16)};
        int[] orders = {1, 1, 2, 2, 2, 3, 4, 6, 12, 6, 6, 12, 3, 12, 2, 3};
        for (int k = 0; k < words.length; k++) {
            Due.write(x, 0, words[k]);
            Due.is("order(0) of " + words[k], x.order(0), orders[k]);
        }
        MirrorBench y = line(4);
        for (int k = 0; k < 2; k++) y.mirror(0);
        y.meet(4, 5, 1, 3);
        Due.write(y, 0, "012345");
        Due.is("order(0) of 5 and 6", y.order(0), 30);
        MirrorBench z = Due.bench(2, TWO_TWO);
        Due.write(z, 0, "01");
        Due.is("order(0): there is none", z.order(0), -2);
        Due.write(z, 0, "010");
        Due.is("order(0) beside it", z.order(0), 2);
    }

    /** 23: none left out, all left out; the empty WORD is BELOW each, below it only those SAME as it. */
    private static void belowNoneAndItself() {
        MirrorBench x = line(3);
        Due.is("longest(7)", x.longest(7), 6);
        for (int n = 0; n <= 6; n++) {
            for (int i = 0; i < x.forms(n); i++) {
                x.next(n, i, 0);
                String word = Due.read(x, 0);
                Due.is("below: " + word + " and itself", x.below(0, 0), 1);
                Due.is("below: none and " + word, x.below(1, 0), 1);
                Due.is("below: " + word + " and none", x.below(0, 1), n == 0 ? 1 : 0);
                Due.is("below: " + word + " and the longest", x.below(0, 7), 1);
                Due.is("below: the longest and " + word, x.below(7, 0), n == 6 ? 1 : 0);
            }
        }
        Due.write(x, 2, "1221");
        Due.is("below: a WORD SAME as none, and none", x.below(2, 1), 1);
        Due.is("below: none, and a WORD SAME as none", x.below(1, 2), 1);
        MirrorBench y = Due.bench(2, TWO_TWO);
        Due.write(y, 0, Due.times("01", 50));
        Due.write(y, 1, Due.times("10", 49) + "1");
        Due.is("below: 99 and 100", y.below(1, 0), 1);
        Due.is("below: 100 and 99", y.below(0, 1), 0);
        Due.write(y, 1, Due.times("10", 50));
        Due.is("below: 100 and another 100", y.below(1, 0), 0);
        Due.is("below: 100 and itself", y.below(0, 0), 1);
    }

    // ---- 4 roots and all words

    /** 24: a HEIGHT of 1 and of 40, and those between them of which there is none. */
    private static void heightsOfOneToForty() {
        MirrorBench x = Due.bench(2, TWO_TWO);
        for (int h = 40; h >= 1; h--) Due.is("roots(" + h + ") of 2 and 2", x.roots(h), h % 2 == 1 ? 2 : 0);
        int[][][] sets = {{{0, 4}, {1, 0}}, {{0, 1}, {4, 0}}, {{0, 1, 0}, {2, 0, 2}, {0, 1, 0}}, {{0, 2, 0}, {2, 0, 1}, {0, 1, 0}},
            {{0, 3, 0}, {1, 0, 2}, {0, 2, 0}}};
        for (int[][] numbers : sets) {
            Model m = new Model(numbers.length, numbers);
            java.util.List<java.util.List<String>> all = m.rootsByHeight(40, 40);
            MirrorBench y = m.bench();
            int many = 0;
            for (int h = 1; h <= 40; h++) {
                Due.is("roots(" + h + ")", y.roots(h), all.get(h).size());
                for (String root : all.get(h)) Due.is("root(" + many + ", ..)", Due.root(y, many++), root);
            }
            Due.is("root behind those of HEIGHT 40", y.root(many, 0), -1);
            Due.is("roots of HEIGHT 40 and 39 are there", all.get(40).size() + all.get(39).size() > 0 ? 1 : 0, 1);
        }
        MirrorBench z = new MirrorBench();
        Due.is("roots(1) without mirrors", z.roots(1), 0);
        Due.is("roots(40) without mirrors", z.roots(40), 0);
        z.mirror(2);
        Due.is("roots(1) of one", z.roots(1), 1);
        Due.is("roots(2) of one", z.roots(2), 0);
        Due.is("roots(40) of one", z.roots(40), 0);
    }

    /** 25: the 0-th and the last one; by HEIGHT, of one HEIGHT the greater number first. */
    private static void rootsInOrder() {
        MirrorBench x = Due.bench(6);
        for (int i = 0; i < 6; i++) {
            for (int j = 0; j < 6; j++) Due.is("root(" + i + ", " + j + ") of six alone", x.root(i, j), i == j ? 1 : 0);
        }
        Due.is("root(6, 0) of six alone", x.root(6, 0), -1);
        MirrorBench y = Due.bench(2, TWO_TWO);
        for (int i = 0; i < 40; i++) {
            int low = i / 2;
            Due.is("root(" + i + ", ..)", Due.root(y, i), i % 2 == 0 ? (low + 1) + " " + low : low + " " + (low + 1));
        }
        Due.is("root(40, 0): of a HEIGHT of 41", y.root(40, 0), -1);
        MirrorBench z = Due.bench(3, Due.meet(0, 1, 1, 1), Due.meet(1, 2, 1, 1), Due.meet(2, 0, 1, 1));
        String[] ring = {"1 0 0", "0 1 0", "0 0 1", "1 1 0", "1 0 1", "0 1 1", "2 1 1", "1 2 1", "1 1 2", "2 2 1", "2 1 2", "1 2 2"};
        for (int i = 0; i < ring.length; i++) Due.is("root(" + i + ", ..) of a ring", Due.root(z, i), ring[i]);
        MirrorBench one = Due.bench(1);
        Due.is("root(0, 0) of one", one.root(0, 0), 1);
        Due.is("root(1, 0) of one", one.root(1, 0), -1);
    }

    /** 26, 27, 28: none, one, two at each angle, and two that never meet. */
    private static void setsThatJustEnd() {
        MirrorBench none = new MirrorBench();
        Due.is("ends() without mirrors", none.ends(), 0);
        Due.is("count() without mirrors", none.count(), 1);
        Due.is("longest(7) without mirrors", none.longest(7), 0);
        none.mirror(1);
        Due.write(none, 7, "0000");
        Due.is("ends() of one", none.ends(), 1);
        Due.is("count() of one", none.count(), 2);
        Due.is("longest(7) of one", none.longest(7), 1);
        Due.is("the longest of one", Due.read(none, 7), "0");
        int[][] numbers = {{0, 0}, {1, 1}, {1, 2}, {2, 1}, {1, 3}, {3, 1}, {1, 4}, {4, 1}, {2, 2}};
        int[] angles = {2, 3, 4, 4, 6, 6, 0, 0, 0};
        for (int k = 0; k < numbers.length; k++) {
            MirrorBench x = Due.bench(2, Due.meet(1, 0, numbers[k][0], numbers[k][1]));
            boolean ends = angles[k] > 0;
            Due.is("ends() of two", x.ends(), ends ? angles[k] : -2);
            Due.is("count() of two", x.count(), ends ? 2 * angles[k] : -2);
            Due.is("longest(0) of two", x.longest(0), ends ? angles[k] : -2);
            Due.is("the longest of two", Due.read(x, 0), Due.times("01", 3).substring(0, angles[k]));
            // A third one that meets both at 2 makes twice as many, or none.
            x.mirror(0);
            Due.is("ends() of three", x.ends(), ends ? angles[k] + 1 : -2);
            Due.is("count() of three", x.count(), ends ? 4 * angles[k] : -2);
        }
    }

    /** 26, 27, 28: the most roots of a set that ENDS, and a set that has more than 400 soon. */
    private static void setsOfManyRoots() {
        MirrorBench x = line(6);
        x.meet(0, 1, 2, 1);
        Due.is("ends() of six with a 4 at the head", x.ends(), 36);
        Due.is("count() of it", x.count(), 46080);
        Due.is("root(36, 0)", x.root(36, 0), -1);
        MirrorBench y = Due.bench(6);
        for (int i = 0; i < 6; i++) {
            for (int j = 0; j < i; j++) y.meet(i, j, 1, 1);
        }
        Due.is("roots(11), with which there are more than 400", y.roots(11), -3);
        Due.is("ends() of six that all meet at 3", y.ends(), -2);
        Due.is("count() of it", y.count(), -2);
        Due.is("longest(7) of it", y.longest(7), -2);
    }

    /** 28: 36 MIRRORS are the most; the SLOT had another WORD. */
    private static void longestOfAll() {
        MirrorBench x = line(6);
        x.meet(4, 5, 1, 2);
        Due.write(x, 0, Due.times("5", 100));
        Due.is("longest(0) of six with a 4 at the end", x.longest(0), 36);
        Due.is("at(0, 36)", x.at(0, 36), -1);
        Due.is("form(0, 1) of it", x.form(0, 1), 36);
        Due.is("FORM of it", Due.read(x, 1), Due.read(x, 0));
        Due.is("back(0, 2)", x.back(0, 2), 36);
        Due.is("same(0, 2): INVERTED it is SAME", x.same(0, 2), 1);
    }

    /** 29, 30: of LENGTH 0 there is the empty one; of LENGTH 12 the first and the last one. */
    private static void formsOfNoneToTwelve() {
        MirrorBench x = Due.bench(2, TWO_TWO);
        Due.write(x, 0, "01");
        Due.is("next(0, 0, 0)", x.next(0, 0, 0), 0);
        Due.is("FORM of none", Due.read(x, 0), "");
        Due.is("next(0, 1, 0)", x.next(0, 1, 0), -1);
        for (int n = 1; n <= 12; n++) {
            Due.is("forms(" + n + ")", x.forms(n), 2);
            Due.is("next(n, 0, 0)", x.next(n, 0, 0), n);
            Due.is("the first FORM of " + n, Due.read(x, 0), Due.times("01", 6).substring(0, n));
            Due.is("next(n, 1, 0)", x.next(n, 1, 0), n);
            Due.is("the last FORM of " + n, Due.read(x, 0), Due.times("10", 6).substring(0, n));
            Due.is("next(n, 2, 0)", x.next(n, 2, 0), -1);
        }
        Due.is("forms(13)", x.forms(13), -1);
        MirrorBench y = Due.bench(6);
        int[] of = {1, 6, 15, 20, 15, 6, 1, 0, 0, 0, 0, 0, 0};
        for (int n = 0; n <= 12; n++) Due.is("forms(" + n + ") of six alone", y.forms(n), of[n]);
        Due.is("next(6, 0, 0)", y.next(6, 0, 0), 6);
        Due.is("the FORM of 6", Due.read(y, 0), "012345");
        Due.is("next(2, 14, 0)", y.next(2, 14, 0), 2);
        Due.is("the last FORM of 2", Due.read(y, 0), "45");
        MirrorBench none = new MirrorBench();
        Due.is("forms(0) without mirrors", none.forms(0), 1);
        Due.is("forms(1) without mirrors", none.forms(1), 0);
        Due.is("forms(12) without mirrors", none.forms(12), 0);
        Due.is("next(0, 0, 7) without mirrors", none.next(0, 0, 7), 0);
    }

    // ---- 5 parts, chambers

    private static void part(MirrorBench x, String word, int bits, String v, String u) {
        Due.write(x, 0, word);
        Due.is("parts(0, " + bits + ", 6, 7) of " + word, x.parts(0, bits, 6, 7), v.length());
        Due.is("v of " + word + " by " + bits, Due.read(x, 6), v);
        Due.is("u of " + word + " by " + bits, Due.read(x, 7), u);
        Due.is("word behind", Due.read(x, 0), word);
    }

    /** 31: J of none, of all, of MIRRORS that there are not; of the empty WORD, of one alone. */
    private static void setsOfNoneAndOfAll() {
        int min = Integer.MIN_VALUE;
        int max = Integer.MAX_VALUE;
        MirrorBench x = line(3);
        for (int bits : new int[] {0, 8, 16, 32, 64, 56, 256, 1 << 30, min, -8, max - 7}) {
            part(x, "210", bits, "", "210");
            part(x, "00", bits, "", "");
            part(x, "101", bits, "", "010");
        }
        for (int bits : new int[] {7, 15, 63, max, min + 7, 7 + 256}) {
            part(x, "210", bits, "210", "");
            part(x, "00", bits, "", "");
            part(x, "101", bits, "010", "");
        }
        for (int bits : new int[] {-1, 0, 1, 2, 7}) part(x, "", bits, "", "");
        part(x, "210", 4, "2", "10");
        part(x, "210", 1, "", "210");
        part(x, "210", -4, "2", "10");
        part(x, "210", -2, "21", "0");
        MirrorBench six = Due.bench(6);
        for (int bits = 0; bits < 64; bits++) {
            StringBuilder v = new StringBuilder();
            StringBuilder u = new StringBuilder();
            for (int i = 0; i < 6; i++) (((bits >> i & 1) == 1) ? v : u).append(i);
            part(six, "531024", bits, v.toString(), u.toString());
            part(six, "531024", bits | 64, v.toString(), u.toString());
            part(six, "531024", bits | 1 << 20, v.toString(), u.toString());
            if (bits != 63) part(six, "531024", bits - 64, v.toString(), u.toString());
        }
        MirrorBench none = new MirrorBench();
        Due.is("parts(0, -1, 1, 2) without mirrors", none.parts(0, -1, 1, 2), 0);
        Due.is("parts(0, 63, 1, 2) without mirrors", none.parts(0, 63, 1, 2), 0);
        MirrorBench y = Due.bench(2, TWO_TWO);
        String hundred = Due.times("01", 50);
        part(y, hundred, 3, hundred, "");
        part(y, hundred, 0, "", hundred);
        part(y, hundred, 1, "0", hundred.substring(1));
        part(y, hundred, 2, "", hundred);
    }

    /** 31: THE PART, J -1, are those that are not STILL; just -1 is it. */
    private static void thePart() {
        MirrorBench x = Due.bench(3);
        for (int kinds = 0; kinds < 27; kinds++) {
            int[] of = {kinds % 3, kinds / 3 % 3, kinds / 9};
            StringBuilder v = new StringBuilder();
            StringBuilder u = new StringBuilder();
            for (int i = 0; i < 3; i++) {
                x.kind(i, of[i]);
                (of[i] == 0 ? v : u).append(i);
            }
            part(x, "210", -1, v.toString(), u.toString());
            part(x, "210", -2, "12", "0");
            part(x, "210", 7, "012", "");
            part(x, "210", 63, "012", "");
        }
    }

    /** 31: to the SLOT of the WORD itself, for v and for u. */
    private static void partsToEitherSlot() {
        MirrorBench x = line(3);
        for (int to = 0; to < 8; to++) {
            for (int rest = 0; rest < 8; rest++) {
                if (to == rest) continue;
                Due.write(x, 3, "2012");
                Due.is("parts(3, 4, to, rest)", x.parts(3, 4, to, rest), 1);
                Due.is("v", Due.read(x, to), "2");
                Due.is("u", Due.read(x, rest), "012");
                if (to != 3 && rest != 3) Due.is("word behind", Due.read(x, 3), "2012");
            }
        }
    }

    /** 32: from a chamber to itself, from and to the first one; just 100 MIRRORS. */
    private static void waysOfNoneAndOfAHundred() {
        MirrorBench x = Due.bench(2, TWO_TWO);
        Due.is("way(0, 1, 2) of none", x.way(0, 1, 2), 0);
        Due.write(x, 0, Due.times("01", 25));
        Due.write(x, 1, Due.times("10", 25));
        Due.write(x, 3, Due.times("01", 50));
        Due.is("way(0, 0, 2): 50 and 50, to itself", x.way(0, 0, 2), 0);
        Due.is("the way", Due.read(x, 2), "");
        Due.is("way(0, 1, 2): 50 and 50", x.way(0, 1, 2), 100);
        Due.is("the way", Due.read(x, 2), Due.times("10", 50));
        Due.is("way(4, 3, 2): from the first chamber", x.way(4, 3, 2), 100);
        Due.is("the way", Due.read(x, 2), Due.times("01", 50));
        Due.is("way(3, 4, 2): to the first chamber", x.way(3, 4, 2), 100);
        Due.is("the way", Due.read(x, 2), Due.times("10", 50));
        Due.write(x, 4, "0");
        Due.is("way(3, 4, 2): 101", x.way(3, 4, 2), -3);
        Due.is("way(4, 3, 2): 101", x.way(4, 3, 2), -3);
        Due.write(x, 3, Due.times("01", 49) + "0");
        Due.is("way(3, 4, 2): 99 and 1", x.way(3, 4, 2), 98);
    }

    /** 33: the 0-th and the last wall of a way of 100; each is above 0, be it the ROOT or that less. */
    private static void wallsAtEitherEnd() {
        MirrorBench x = Due.bench(2, TWO_TWO);
        Due.write(x, 0, Due.times("01", 25));
        Due.write(x, 1, Due.times("10", 25));
        Due.write(x, 3, Due.times("01", 50));
        for (int k = 0; k < 100; k++) {
            Due.is("wall(5, 3, " + k + ", 0)", x.wall(5, 3, k, 0), k + 1);
            Due.is("wall(5, 3, " + k + ", 1)", x.wall(5, 3, k, 1), k);
            Due.is("wall(3, 5, " + k + ", 0)", x.wall(3, 5, k, 0), 100 - k);
            Due.is("wall(3, 5, " + k + ", 1)", x.wall(3, 5, k, 1), 99 - k);
            Due.is("wall(0, 1, " + k + ", 0)", x.wall(0, 1, k, 0), k < 50 ? 50 - k : k - 50);
            Due.is("wall(0, 1, " + k + ", 1)", x.wall(0, 1, k, 1), k < 50 ? 49 - k : k - 49);
        }
        Due.is("wall(5, 3, 100, 0)", x.wall(5, 3, 100, 0), -10000000000001L);
        Due.is("wall(0, 0, 0, 0)", x.wall(0, 0, 0, 0), -10000000000001L);
        MirrorBench one = Due.bench(1);
        one.put(1, 0);
        Due.is("wall(0, 1, 0, 0) of one", one.wall(0, 1, 0, 0), 1);
        Due.is("wall(1, 0, 0, 0) of one: that less", one.wall(1, 0, 0, 0), 1);
        Due.is("wall(1, 1, 0, 0) of one", one.wall(1, 1, 0, 0), -10000000000001L);
    }

    /** KINDS are asked by without() and by THE PART alone. */
    private static void kindsTurnAlike() {
        MirrorBench x = line(3);
        for (int kinds = 0; kinds < 27; kinds++) {
            for (int i = 0; i < 3; i++) x.kind(i, new int[] {kinds % 3, kinds / 3 % 3, kinds / 9}[i]);
            shorts(x, "2101", "2101", "0210");
            Due.is("ends()", x.ends(), 6);
            Due.is("count()", x.count(), 24);
            Due.is("forms(3)", x.forms(3), 6);
            Due.is("roots(2)", x.roots(2), 2);
            Due.is("order(0)", x.order(0), 3);
            part(x, "2012", 4, "2", "012");
        }
    }
}
