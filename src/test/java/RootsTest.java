/** Promises 24 to 30: roots, whether all words end and how many there are, the longest one, forms. */
public final class RootsTest {
    private static final int MIN = Integer.MIN_VALUE, MAX = Integer.MAX_VALUE;

    public static void main(String[] args) {
        roots();
        root();
        rootsFull();
        justFull();
        rootsFollowTheSet();
        endingSets();
        endlessSets();
        longest();
        formsAndNext();
        formsFull();
        withoutMirrors();
        Due.end();
    }

    private static MirrorBench line(int mirrors) {
        MirrorBench x = Due.bench(mirrors);
        for (int i = 1; i < mirrors; i++) x.meet(i - 1, i, 1, 1);
        return x;
    }

    private static void roots() {
        MirrorBench x = line(3);
        int[] many = {3, 2, 1, 0, 0};
        for (int h = 1; h <= 5; h++) Due.is("roots(" + h + ")", x.roots(h), many[h - 1]);
        Due.is("roots(40)", x.roots(40), 0);
        Due.is("roots(0)", x.roots(0), -1);
        Due.is("roots(41)", x.roots(41), -1);
        Due.is("roots(-1)", x.roots(-1), -1);
        Due.is("roots(MIN)", x.roots(MIN), -1);
        Due.is("roots(MAX)", x.roots(MAX), -1);
        MirrorBench y = Due.bench(2, Due.meet(0, 1, 1, 3));
        int[] g = {2, 1, 1, 1, 1, 0};
        for (int h = 6; h >= 1; h--) Due.is("roots(" + h + ")", y.roots(h), g[h - 1]);
        Due.is("root of height 2", Due.root(y, 2), "1 1");
        Due.is("root of height 3", Due.root(y, 3), "1 2");
        Due.is("root of height 4", Due.root(y, 4), "1 3");
        Due.is("root of height 5", Due.root(y, 5), "2 3");
    }

    private static void root() {
        MirrorBench x = line(3);
        String[] all = {"1 0 0", "0 1 0", "0 0 1", "1 1 0", "0 1 1", "1 1 1"};
        for (int i = all.length - 1; i >= 0; i--) Due.is("root(" + i + ", ..)", Due.root(x, i), all[i]);
        Due.is("root(6, 0)", x.root(6, 0), -1);
        Due.is("root(-1, 0)", x.root(-1, 0), -1);
        Due.is("root(MAX, 0)", x.root(MAX, 0), -1);
        Due.is("root(MIN, 0)", x.root(MIN, 0), -1);
        Due.is("root(0, 3)", x.root(0, 3), -1);
        Due.is("root(0, -1)", x.root(0, -1), -1);
        MirrorBench y = Due.bench(3, Due.meet(0, 2, 1, 1), Due.meet(1, 2, 1, 1));
        String[] other = {"1 0 0", "0 1 0", "0 0 1", "1 0 1", "0 1 1", "1 1 1"};
        for (int i = 0; i < other.length; i++) Due.is("root(" + i + ", ..)", Due.root(y, i), other[i]);
        MirrorBench z = Due.bench(2, Due.meet(0, 1, 2, 2));
        Due.is("root(39, ..)", Due.root(z, 39), "19 20");
        Due.is("root(38, ..)", Due.root(z, 38), "20 19");
        Due.is("root(40, 0)", z.root(40, 0), -1);
    }

    /** Six mirrors that never meet: as many roots as to be FULL soon. */
    private static void rootsFull() {
        MirrorBench x = Due.bench(6);
        for (int i = 0; i < 6; i++) {
            for (int j = 0; j < i; j++) x.meet(i, j, 2, 2);
        }
        int[] many = {6, 0, 30, 0, 30, 0};
        int last = 0;
        for (int h = 1; h <= 40; h++) {
            int got = x.roots(h);
            if (h <= 6) Due.is("roots(" + h + ")", got, many[h - 1]);
            if (got == -3) break;
            last = h;
        }
        for (int h = last + 1; h <= 40; h++) Due.is("roots(" + h + ")", x.roots(h), -3);
        int all = 0;
        for (int h = 1; h <= last; h++) all += x.roots(h);
        Due.is("root(all - 1, 0) is there", x.root(all - 1, 0) >= 0 ? 1 : 0, 1);
        Due.is("root(all, 0)", x.root(all, 0), -1);
        Due.is("at most 400", all <= 400 ? 1 : 0, 1);
        Due.is("roots(41)", x.roots(41), -1);
        Due.is("ends()", x.ends(), -2);
        for (int i = 0; i < 6; i++) {
            for (int j = 0; j < i; j++) x.meet(i, j, 0, 0);
        }
        Due.is("roots(40) of another set", x.roots(40), 0);
        Due.is("roots(1) of another set", x.roots(1), 6);
        Due.is("ends() of another set", x.ends(), 6);
    }

    private static void rootsFollowTheSet() {
        MirrorBench x = line(3);
        Due.is("roots(3)", x.roots(3), 1);
        Due.is("forms(2)", x.forms(2), 5);
        x.meet(1, 2, 0, 0);
        Due.is("roots(3) behind meet()", x.roots(3), 0);
        Due.is("root(3, ..) behind meet()", Due.root(x, 3), "1 1 0");
        Due.is("root(4, 0) behind meet()", x.root(4, 0), -1);
        Due.is("forms(3) behind meet()", x.forms(3), 3);
        x.mirror(1);
        Due.is("roots(1) behind mirror()", x.roots(1), 4);
        Due.is("forms(1) behind mirror()", x.forms(1), 4);
        x.less();
        Due.is("roots(1) behind less()", x.roots(1), 3);
        Due.is("forms(1) behind less()", x.forms(1), 3);
        x.undo();
        Due.is("roots(1) behind undo()", x.roots(1), 4);
        Due.is("count() behind undo()", x.count(), 24);
        x.undo();
        x.undo();
        Due.is("count() behind undo()", x.count(), 24);
        Due.is("ends() behind undo()", x.ends(), 6);
        x.kind(0, 2);
        Due.is("ends() behind kind()", x.ends(), 6);
    }

    private static void ending(String name, MirrorBench x, int roots, long words) {
        Due.is("ends() of " + name, x.ends(), roots);
        Due.is("count() of " + name, x.count(), words);
        Due.is("longest(0) of " + name, x.longest(0), roots);
        Due.is("order of the longest of " + name, x.order(0), roots == 0 ? 1 : 2);
        Due.is("downs of the longest of " + name, x.downs(0, false), (1 << x.told(3, 0, 0)) - 1);
        Due.is("form of the longest of " + name, x.form(0, 1), roots);
        Due.is("the longest of " + name, Due.read(x, 0), Due.read(x, 1));
    }

    private static MirrorBench with(MirrorBench x, int... meet) {
        for (int k = 0; k + 3 < meet.length; k += 4) x.meet(meet[k], meet[k + 1], meet[k + 2], meet[k + 3]);
        return x;
    }

    private static void endingSets() {
        long[] factorial = {1, 1, 2, 6, 24, 120, 720, 5040};
        for (int n = 1; n <= 6; n++) {
            ending("line of " + n, line(n), n * (n + 1) / 2, factorial[n + 1]);
            if (n < 2) continue;
            ending("4 at the end of " + n, with(line(n), n - 2, n - 1, 1, 2), n * n, factorial[n] << n);
            ending("4 at the head of " + n, with(line(n), 0, 1, 1, 2), n * n, factorial[n] << n);
            ending("4 the other way of " + n, with(line(n), n - 2, n - 1, 2, 1), n * n, factorial[n] << n);
            if (n < 4) continue;
            ending("fork of " + n, with(line(n), n - 2, n - 1, 0, 0, n - 3, n - 1, 1, 1), n * (n - 1), factorial[n] << n - 1);
        }
        ending("E6", with(line(6), 4, 5, 0, 0, 2, 5, 1, 1), 36, 51840);
        ending("F4", with(line(4), 1, 2, 1, 2), 24, 1152);
        ending("F4 the other way", with(line(4), 1, 2, 2, 1), 24, 1152);
        ending("F4 and two", with(line(6), 1, 2, 1, 2, 3, 4, 0, 0), 27, 6912);
        ending("F4 and 6", with(line(6), 1, 2, 1, 2, 3, 4, 0, 0, 4, 5, 1, 3), 30, 13824);
        ending("6", with(line(2), 0, 1, 1, 3), 6, 12);
        ending("6 three times", with(line(6), 0, 1, 1, 3, 1, 2, 0, 0, 2, 3, 3, 1, 3, 4, 0, 0, 4, 5, 1, 3), 18, 1728);
        ending("six alone", Due.bench(6), 6, 64);
        ending("fork of 5 and one", with(line(5), 3, 4, 0, 0, 2, 4, 1, 1), 20, 1920);
    }

    private static void endless(String name, MirrorBench x) {
        Due.write(x, 0, "0");
        Due.is("ends() of " + name, x.ends(), -2);
        Due.is("count() of " + name, x.count(), -2);
        Due.is("longest(0) of " + name, x.longest(0), -2);
        Due.is("word behind NOT", Due.read(x, 0), "0");
        Due.is("longest(8) of " + name, x.longest(8), -1);
    }

    private static void endlessSets() {
        endless("2 2", with(line(2), 0, 1, 2, 2));
        endless("1 4", with(line(2), 0, 1, 1, 4));
        endless("4 1", with(line(2), 0, 1, 4, 1));
        for (int n = 3; n <= 6; n++) {
            endless("ring of " + n, with(line(n), 0, n - 1, 1, 1));
            endless("4 at both ends of " + n, with(line(n), 0, 1, 1, 2, n - 2, n - 1, 1, 2));
            endless("4 at both ends the other way of " + n, with(line(n), 0, 1, 2, 1, n - 2, n - 1, 1, 2));
            endless("6 in a line of " + n, with(line(n), 0, 1, 1, 3));
            endless("6 the other way in a line of " + n, with(line(n), 0, 1, 3, 1));
            endless("all of " + n + " meet at 6", sixes(n));
        }
        endless("five that meet one", with(Due.bench(5), 0, 1, 1, 1, 0, 2, 1, 1, 0, 3, 1, 1, 0, 4, 1, 1));
        endless("six that meet one", with(Due.bench(6), 0, 1, 1, 1, 0, 2, 1, 1, 0, 3, 1, 1, 0, 4, 1, 1, 0, 5, 1, 1));
        endless("two forks", with(line(6), 3, 4, 1, 1, 4, 5, 0, 0, 1, 5, 1, 1, 3, 4, 0, 0, 2, 4, 1, 1));
        endless("two forks of six", with(line(5), 3, 4, 0, 0, 2, 4, 1, 1, 0, 4, 1, 1));
        endless("F4 and one more", with(line(5), 1, 2, 1, 2));
        endless("F4 and one more the other way", with(line(5), 1, 2, 2, 1));
        endless("4 in the midst of six", with(line(6), 2, 3, 1, 2));
        endless("2 2 beside four", with(line(6), 0, 1, 2, 2, 1, 2, 0, 0));
        endless("fork and 4", with(line(5), 0, 1, 1, 2, 3, 4, 0, 0, 2, 4, 1, 1));
    }

    private static MirrorBench sixes(int n) {
        MirrorBench x = Due.bench(n);
        for (int i = 0; i < n; i++) {
            for (int j = 0; j < i; j++) x.meet(i, j, 3, 1);
        }
        return x;
    }

    private static void longest() {
        MirrorBench x = line(3);
        Due.is("longest(5)", x.longest(5), 6);
        Due.is("word of longest", Due.read(x, 5), "010210");
        Due.is("longest(8)", x.longest(8), -1);
        Due.is("longest(-1)", x.longest(-1), -1);
        Due.write(x, 1, "21");
        Due.is("form(1, 1)", x.form(1, 1), 2);
        Due.is("longest(5) behind form", x.longest(5), 6);
        Due.is("word of longest behind form", Due.read(x, 5), "010210");
        MirrorBench y = with(line(3), 1, 2, 2, 1);
        Due.is("longest(5)", y.longest(5), 9);
        Due.is("word of longest", Due.read(y, 5), "010210212");
        MirrorBench z = Due.bench(4);
        Due.is("longest(5)", z.longest(5), 4);
        Due.is("word of longest", Due.read(z, 5), "0123");
    }

    private static void formsAndNext() {
        MirrorBench x = line(3);
        int[] many = {1, 3, 5, 6, 5, 3, 1, 0, 0, 0, 0, 0, 0};
        for (int n = 12; n >= 0; n--) Due.is("forms(" + n + ")", x.forms(n), many[n]);
        String[] three = {"010", "012", "021", "102", "121", "210"};
        for (int i = 0; i < three.length; i++) {
            Due.is("next(3, " + i + ", 4)", x.next(3, i, 4), 3);
            Due.is("word of next(3, " + i + ", 4)", Due.read(x, 4), three[i]);
        }
        Due.is("next(3, 6, 4)", x.next(3, 6, 4), -1);
        Due.is("next(3, -1, 4)", x.next(3, -1, 4), -1);
        Due.is("next(3, MAX, 4)", x.next(3, MAX, 4), -1);
        Due.is("next(7, 0, 4)", x.next(7, 0, 4), -1);
        Due.is("next(13, 0, 4)", x.next(13, 0, 4), -1);
        Due.is("next(-1, 0, 4)", x.next(-1, 0, 4), -1);
        Due.is("next(MIN, 0, 4)", x.next(MIN, 0, 4), -1);
        Due.is("next(3, 0, 8)", x.next(3, 0, 8), -1);
        Due.is("next(3, 0, -1)", x.next(3, 0, -1), -1);
        Due.is("word behind refused calls", Due.read(x, 4), "210");
        Due.is("next(0, 0, 4)", x.next(0, 0, 4), 0);
        Due.is("word of next(0, 0, 4)", Due.read(x, 4), "");
        Due.is("forms(13)", x.forms(13), -1);
        Due.is("forms(-1)", x.forms(-1), -1);
        Due.is("forms(MAX)", x.forms(MAX), -1);
        MirrorBench y = Due.bench(2, Due.meet(0, 1, 4, 1));
        Due.is("next(12, 1, 0)", y.next(12, 1, 0), 12);
        Due.is("word of next(12, 1, 0)", Due.read(y, 0), "101010101010");
    }

    private static void formsFull() {
        MirrorBench x = Due.bench(6);
        for (int i = 0; i < 6; i++) {
            for (int j = 0; j < i; j++) x.meet(i, j, 2, 2);
        }
        int[] many = {1, 6, 30, 150, -3, -3, -3, -3, -3, -3, -3, -3, -3, -1};
        for (int n = 0; n < many.length; n++) Due.is("forms(" + n + ")", x.forms(n), many[n]);
        Due.is("next(4, 0, 0)", x.next(4, 0, 0), -1);
        Due.is("next(12, 0, 0)", x.next(12, 0, 0), -1);
        Due.is("next(3, 149, 0)", x.next(3, 149, 0), 3);
        Due.is("word of next(3, 149, 0)", Due.read(x, 0), "545");
        x.less();
        x.less();
        x.less();
        Due.is("forms(4) of a lesser set", x.forms(4), 24);
        Due.is("next(4, 23, 0) of a lesser set", x.next(4, 23, 0), 4);
        Due.is("word of next(4, 23, 0)", Due.read(x, 0), "2121");
        // In a set that ENDS lesser ones come again behind a FULL length, but FULL it stays.
        MirrorBench y = with(Due.bench(6), 1, 0, 1, 2, 4, 2, 1, 1, 4, 3, 1, 1, 5, 2, 1, 2);
        int[] of = {1, 6, 19, 44, 83, 134, 192, 250, 300, -3, -3, -3, -3};
        for (int n = 0; n <= 12; n++) Due.is("forms(" + n + ")", y.forms(n), of[n]);
        Due.is("next(8, 299, 0)", y.next(8, 299, 0), 8);
        Due.is("next(8, 300, 0)", y.next(8, 300, 0), -1);
        Due.is("next(12, 0, 0)", y.next(12, 0, 0), -1);
        MirrorBench z = with(Due.bench(4), 2, 1, 2, 1, 3, 0, 1, 2, 3, 1, 1, 1, 3, 2, 1, 1);
        Due.is("forms(7), 301 of them", z.forms(7), -3);
        Due.is("forms(6)", z.forms(6) > 0 ? 1 : 0, 1);
    }

    /** Just 400 roots up to a height, and one more; each set is told by its meets. */
    private static void justFull() {
        int[][] sets = {{4, 1, 0, 2, 1, 2, 0, 2, 2, 2, 1, 1, 2, 3, 0, 2, 1, 3, 1, 1, 2, 3, 2, 1, 1},
            {4, 1, 0, 1, 2, 2, 1, 2, 2, 3, 0, 2, 2, 3, 1, 1, 3}, {4, 1, 0, 2, 2, 2, 0, 1, 3, 3, 0, 3, 1, 3, 1, 1, 4},
            {4, 1, 0, 3, 1, 2, 0, 3, 1, 2, 1, 4, 1, 3, 1, 1, 1, 3, 2, 4, 1}};
        int[] heights = {32, 40, 40, 31};
        int[] alls = {400, 400, 401, 401};
        for (int n = 0; n < sets.length; n++) {
            int[] meets = java.util.Arrays.copyOfRange(sets[n], 1, sets[n].length);
            int[][] numbers = new int[4][4];
            for (int k = 0; k < meets.length; k += 4) {
                numbers[meets[k]][meets[k + 1]] = meets[k + 2];
                numbers[meets[k + 1]][meets[k]] = meets[k + 3];
            }
            Model m = new Model(sets[n][0], numbers);
            java.util.List<java.util.List<String>> rows = m.rootsByHeight(heights[n], heights[n]);
            int all = 0;
            for (java.util.List<String> row : rows) all += row.size();
            Due.is("roots of the model", all, alls[n]);
            MirrorBench x = m.bench();
            Due.is("root(399, 0) is there", x.root(399, 0) >= 0 ? 1 : 0, all == 400 ? 1 : 0);
            int last = rows.get(heights[n]).size();
            Due.is("roots(" + heights[n] + ")", x.roots(heights[n]), all == 400 ? last : -3);
            Due.is("roots(" + (heights[n] - 1) + ")", x.roots(heights[n] - 1), rows.get(heights[n] - 1).size());
            String lowest = all == 400 ? rows.get(heights[n]).get(last - 1) : rows.get(heights[n] - 1).get(0);
            int place = all == 400 ? 399 : all - last - rows.get(heights[n] - 1).size();
            Due.is("root(" + place + ", ..)", Due.root(x, place), lowest);
            Due.is("root behind the last", x.root(all == 400 ? 400 : all - last, 0), -1);
        }
    }

    private static void withoutMirrors() {
        MirrorBench x = new MirrorBench();
        Due.is("roots(1)", x.roots(1), 0);
        Due.is("roots(40)", x.roots(40), 0);
        Due.is("root(0, 0)", x.root(0, 0), -1);
        Due.is("ends()", x.ends(), 0);
        Due.is("count()", x.count(), 1);
        Due.is("longest(2)", x.longest(2), 0);
        Due.is("forms(0)", x.forms(0), 1);
        Due.is("forms(12)", x.forms(12), 0);
        Due.is("next(0, 0, 1)", x.next(0, 0, 1), 0);
        Due.is("next(1, 0, 1)", x.next(1, 0, 1), -1);
    }
}
