import java.util.ArrayList;
import java.util.List;

/** Promises 17 to 33 against the model, on sets and words drawn by a told rule. */
public final class ModelTest {
    private static long drawn = 20261119;

    private static int draw(int below) {
        drawn = drawn * 6364136223846793005L + 1442695040888963407L;
        return (int) ((drawn >>> 33) % below);
    }

    private static String drawWord(int mirrors, int length) {
        StringBuilder word = new StringBuilder();
        for (int k = 0; k < length && mirrors > 0; k++) word.append((char) ('0' + draw(mirrors)));
        return word.toString();
    }

    private static Model drawSet(int mirrors, int kinds, int odds) {
        int[][] numbers = new int[mirrors][mirrors];
        for (int i = 0; i < mirrors; i++) {
            for (int j = 0; j < i; j++) {
                int[] meet = Model.MEETS[draw(100) < odds ? draw(kinds) : 0];
                numbers[i][j] = meet[0];
                numbers[j][i] = meet[1];
            }
        }
        return new Model(mirrors, numbers);
    }

    public static void main(String[] args) {
        for (int n = 0; n < 40; n++) {
            Model m = drawSet(1 + draw(3), 6, 80);
            m.lookThrough(9);
            allWords(m);
            for (int k = 0; k < 6; k++) words(m, drawWord(m.mirrors, draw(10)), drawWord(m.mirrors, draw(10)), 9);
        }
        for (int n = 0; n < 40; n++) {
            Model m = drawSet(2 + draw(3), 9, 60);
            m.lookThrough(6);
            allWords(m);
            for (int k = 0; k < 6; k++) words(m, drawWord(m.mirrors, draw(4)), drawWord(m.mirrors, draw(4)), 6);
        }
        for (int n = 0; n < 120; n++) rootsOf(drawSet(draw(7), 9, 10 + draw(60)));
        for (int n = 0; n < 6000; n++) endsByMinors(drawSet(1 + draw(6), 9, 10 + draw(50)));
        for (int n = 0; n < 400; n++) greatOnes(drawSet(2 + draw(5), 9, 20 + draw(80)));
        for (int n = 0; n < 150; n++) nothingThrows(n);
        Due.end();
    }

    /** Forms of each length, and what a set that ENDS has. */
    private static void allWords(Model m) {
        MirrorBench x = m.bench();
        boolean ends = false;
        int longest = 0;
        for (int n = 0; n < m.formsOfLength.size(); n++) {
            List<String> forms = m.formsOfLength.get(n);
            ends |= forms.isEmpty();
            if (!forms.isEmpty()) longest = n;
            if (forms.size() > 300) {
                Due.is("forms(" + n + ")", x.forms(n), -3);
                return;
            }
            Due.is("forms(" + n + ")", x.forms(n), forms.size());
            for (int i = 0; i < forms.size(); i += 1 + forms.size() / 9) {
                Due.is("next(" + n + ", " + i + ", 0)", x.next(n, i, 0), n);
                Due.is("word of next(" + n + ", " + i + ", 0)", Due.read(x, 0), forms.get(i));
            }
            Due.is("next(n, all, 0)", x.next(n, forms.size(), 0), -1);
        }
        if (!ends) return;
        Due.is("ends()", x.ends(), longest);
        Due.is("count()", x.count(), m.formOf.size());
        Due.is("longest(1)", x.longest(1), longest);
        Due.is("word of longest(1)", Due.read(x, 1), m.formsOfLength.get(longest).get(0));
    }

    private static void words(Model m, String a, String b, int known) {
        if (a.length() + b.length() > known && m.formOf.size() > 400) return;
        if (m.form(a) == null || m.form(b) == null || m.form(Model.inverted(a) + b) == null) return;
        for (String w : new String[] {a, b}) {
            for (int s = 0; s < m.mirrors; s++) {
                if (m.form(w + s) == null || m.form(s + w) == null) return;
            }
        }
        MirrorBench x = m.bench();
        Due.write(x, 0, a);
        Due.write(x, 1, b);
        Due.is("shorten(0, 2) of " + a, x.shorten(0, 2), m.length(a));
        Due.is("word of shorten " + a, Due.read(x, 2), m.shortByLengths(a));
        Due.is("form(0, 3) of " + a, x.form(0, 3), m.length(a));
        Due.is("word of form " + a, Due.read(x, 3), m.form(a));
        Due.is("same(0, 1) of " + a + ", " + b, x.same(0, 1), m.key(a).equals(m.key(b)) ? 1 : 0);
        Due.is("same(3, 0) of " + a, x.same(3, 0), 1);
        Due.is("downs(0, false) of " + a, x.downs(0, false), m.downs(a, false));
        Due.is("downs(0, true) of " + a, x.downs(0, true), m.downs(a, true));
        Due.is("below(0, 1) of " + a + ", " + b, x.below(0, 1), m.isBelow(a, b) ? 1 : 0);
        Due.is("below(1, 0) of " + a + ", " + b, x.below(1, 0), m.isBelow(b, a) ? 1 : 0);
        Due.is("way(0, 1, 4) of " + a + ", " + b, x.way(0, 1, 4), m.length(Model.inverted(a) + b));
        String way = m.form(Model.inverted(a) + b);
        Due.is("word of way " + a + ", " + b, Due.read(x, 4), way);
        walls(m, x, a, b, way);
        order(m, x, a);
        for (int bits = 0; bits < 1 << m.mirrors; bits++) {
            String[] parts = m.parts(a, bits);
            Due.is("parts(0, " + bits + ", 5, 6) of " + a, x.parts(0, bits, 5, 6), parts[0].length());
            Due.is("part " + bits + " of " + a, Due.read(x, 5), parts[0]);
            Due.is("rest " + bits + " of " + a, Due.read(x, 6), parts[1]);
        }
    }

    /** A wall is a root above 0 that becomes itself less by the mirror that swaps both its chambers. */
    private static void walls(Model m, MirrorBench x, String a, String b, String way) {
        for (int k = 0; k < way.length(); k++) {
            String there = a + way.substring(0, k);
            String swap = there + way.charAt(k) + Model.inverted(there);
            java.math.BigInteger[] root = new java.math.BigInteger[m.mirrors];
            int above = 0;
            for (int j = 0; j < m.mirrors; j++) {
                root[j] = java.math.BigInteger.valueOf(x.wall(0, 1, k, j));
                if (root[j].signum() < 0) above = -99;
                if (root[j].signum() > 0) above++;
            }
            Due.is("a wall is above 0", above > 0 ? 1 : 0, 1);
            java.math.BigInteger[] swapped = m.image(swap, root);
            for (int j = 0; j < m.mirrors; j++) {
                Due.is("a wall swapped", swapped[j].longValueExact(), root[j].negate().longValueExact());
                Due.is("wall", x.wall(0, 1, k, j), m.toldWall(a, b, k, j));
            }
        }
        Due.is("wall behind the last", x.wall(0, 1, way.length(), 0), -10000000000001L);
    }

    private static void order(Model m, MirrorBench x, String a) {
        String power = "";
        String none = m.key("");
        for (int n = 1; n <= 30; n++) {
            power += a;
            if (!m.key(power).equals(none)) continue;
            Due.is("order(0) of " + a, x.order(0), n);
            return;
        }
        Due.is("order(0) of " + a + " is below 0", x.order(0) < 0 ? 1 : 0, 1);
    }

    private static void rootsOf(Model m) {
        MirrorBench x = m.bench();
        List<List<String>> all = m.rootsByHeight(14, 24);
        int many = 0;
        for (int h = 1; h <= 14; h++) {
            List<String> row = all.get(h);
            if (many + row.size() > 400) {
                Due.is("roots(" + h + ")", x.roots(h), -3);
                Due.is("root(many, 0)", x.root(many, 0), -1);
                return;
            }
            if (draw(3) > 0) Due.is("roots(" + h + ")", x.roots(h), row.size());
            for (int k = 0; k < row.size(); k += 1 + draw(5)) Due.is("root", Due.root(x, many + k), row.get(k));
            many += row.size();
        }
    }

    /** A set ENDS just if of 2 along the diagonal less M each part has a determinant above 0. */
    private static void endsByMinors(Model m) {
        boolean ends = true;
        for (int bits = 1; bits < 1 << m.mirrors; bits++) ends &= determinant(m, bits) > 0;
        MirrorBench x = m.bench();
        Due.is("ends() as minors tell", x.ends() >= 0 ? 1 : 0, ends ? 1 : 0);
        Due.is("count() as minors tell", x.count() >= 0 ? 1 : 0, ends ? 1 : 0);
    }

    private static long determinant(Model m, int bits) {
        List<Integer> in = new ArrayList<>();
        for (int i = 0; i < m.mirrors; i++) {
            if ((bits >> i & 1) == 1) in.add(i);
        }
        int n = in.size();
        long[][] a = new long[n][n];
        for (int i = 0; i < n; i++) {
            for (int j = 0; j < n; j++) a[i][j] = i == j ? 2 : -m.numbers[in.get(i)][in.get(j)];
        }
        return determinant(a);
    }

    private static long determinant(long[][] a) {
        if (a.length == 0) return 1;
        long sum = 0;
        for (int j = 0; j < a.length; j++) {
            if (a[0][j] == 0) continue;
            long[][] minor = new long[a.length - 1][a.length - 1];
            for (int r = 1; r < a.length; r++) {
                for (int c = 0; c < a.length - 1; c++) minor[r - 1][c] = a[r][c < j ? c : c + 1];
            }
            sum += (j % 2 == 0 ? 1 : -1) * a[0][j] * determinant(minor);
        }
        return sum;
    }

    /** The document's own steps on long words, where some turn may be GREAT. */
    private static void greatOnes(Model m) {
        MirrorBench x = m.bench();
        String a = drawWord(m.mirrors, draw(60));
        String b = draw(3) == 0 ? a + drawWord(m.mirrors, draw(4)) : drawWord(m.mirrors, draw(40));
        int bits = draw(1 << m.mirrors);
        int k = draw(30);
        int i = draw(m.mirrors);
        int j = draw(m.mirrors);
        Due.write(x, 0, a);
        Due.write(x, 1, b);
        List<Long> want = new ArrayList<>();
        for (int call = 0; call < 12; call++) {
            try {
                want.add(told(m, call, a, b, bits, k, i, j));
            } catch (Model.Great great) {
                want.add(call == 6 || call == 10 ? -10000000000004L : -4);
            }
        }
        long[] got = {x.shorten(0, 2), x.form(0, 3), x.same(0, 1), x.downs(0, false), x.downs(0, true), x.below(0, 1),
            x.does(0, i, j), x.order(0), x.parts(0, bits, 4, 5), x.way(0, 1, 6), x.wall(0, 1, k, j), x.below(1, 0)};
        for (int call = 0; call < 12; call++) Due.is("call " + call + " of " + a + ", " + b, got[call], want.get(call));
        if (want.get(0) >= 0) Due.is("word of shorten " + a, Due.read(x, 2), m.toldShort(a));
        if (want.get(1) >= 0) Due.is("word of form " + a, Due.read(x, 3), m.toldForm(a));
        if (want.get(9) >= 0) Due.is("word of way", Due.read(x, 6), m.toldForm(Model.inverted(a) + b));
        if (want.get(8) < 0) return;
        String[] parts = m.toldParts(m.toldShort(a), bits);
        Due.is("part " + bits + " of " + a, Due.read(x, 4), m.toldForm(parts[0]));
        Due.is("rest " + bits + " of " + a, Due.read(x, 5), m.toldForm(parts[1]));
    }

    private static long told(Model m, int call, String a, String b, int bits, int k, int i, int j) {
        boolean fits = a.length() + b.length() <= 100;
        switch (call) {
            case 0: return m.toldShort(a).length();
            case 1: return m.toldForm(a).length();
            case 2: return m.toldForm(a).equals(m.toldForm(b)) ? 1 : 0;
            case 3: return m.toldDowns(a, false);
            case 4: return m.toldDowns(a, true);
            case 5: return m.toldBelow(a, b);
            case 6: return m.toldDoes(a, i, j);
            case 7: return m.toldOrder(a);
            case 8: {
                String[] parts = m.toldParts(m.toldShort(a), bits);
                m.toldForm(parts[1]);
                return m.toldForm(parts[0]).length();
            }
            case 9: return fits ? m.toldForm(Model.inverted(a) + b).length() : -3;
            case 10: return fits ? m.toldWall(a, b, k, j) : -10000000000001L;
            default: return m.toldBelow(b, a);
        }
    }

    /** Any numbers in any state: each call answers, and none throws. */
    private static void nothingThrows(int round) {
        MirrorBench x = new MirrorBench();
        for (int n = 0; n < 512; n++) {
            int[] v = new int[5];
            for (int k = 0; k < 5; k++) v[k] = drawAny();
            try {
                call(x, draw(round % 2 == 0 ? 36 : 60), v);
            } catch (RuntimeException thrown) {
                Due.is("a call threw " + thrown, 1, 0);
            }
        }
        Due.is("told(3, 0, 0) is 0 .. 6", x.told(3, 0, 0) >= 0 && x.told(3, 0, 0) <= 6 ? 1 : 0, 1);
    }

    private static int drawAny() {
        int[] odd = {-1, -2, 40, 41, 99, 100, 101, Integer.MAX_VALUE, Integer.MIN_VALUE, Integer.MAX_VALUE - 1, 63, 400};
        return draw(9) == 0 ? odd[draw(odd.length)] : draw(draw(2) == 0 ? 3 : 13);
    }

    private static long call(MirrorBench x, int which, int[] v) {
        switch (which) {
            case 0: return x.mirror(v[0]);
            case 1: return x.meet(v[0], v[1], v[2], v[3]);
            case 2: return draw(4) == 0 ? x.less() : x.mirror(v[0]);
            case 3: return x.kind(v[0], v[1]);
            case 4: return draw(4) == 0 ? x.undo() : x.meet(v[0], v[1], 1 + draw(2), 1 + draw(2));
            case 5: return x.told(v[0], v[1], v[2]);
            case 6: return x.clear(v[0]);
            case 7: return x.put(v[0], v[1]);
            case 8: return x.word(v[0], v[1], v[2], v[3], v[4]);
            case 9: return x.at(v[0], v[1]);
            case 10: return x.times(v[0], v[1], v[2]);
            case 11: return x.back(v[0], v[1]);
            case 12: return x.without(v[0], v[1]);
            case 13: return x.cut(v[0], v[1]);
            case 14: return x.change(v[0], v[1]);
            case 15: return x.shorten(v[0], v[1]);
            case 16: return x.form(v[0], v[1]);
            case 17: return x.same(v[0], v[1]);
            case 18: return x.downs(v[0], v[1] % 2 == 0);
            case 19: return x.does(v[0], v[1], v[2]);
            case 20: return x.order(v[0]);
            case 21: return x.below(v[0], v[1]);
            case 22: return x.roots(v[0]);
            case 23: return x.root(v[0], v[1]);
            case 24: return x.ends();
            case 25: return x.count();
            case 26: return x.longest(v[0]);
            case 27: return x.forms(v[0]);
            case 28: return x.next(v[0], v[1], v[2]);
            case 29: return x.parts(v[0], v[1], v[2], v[3]);
            case 30: return x.way(v[0], v[1], v[2]);
            case 31: return x.wall(v[0], v[1], v[2], v[3]);
            case 32: return x.leaf(v[0], v[1], v[2]);
            case 33: return draw(3) == 0 ? x.drop(v[0]) : x.leaf(v[0], v[1], v[2]);
            case 34: return x.item(v[0], v[1], v[2], v[3]);
            case 35: return x.copy(v[0], v[1], v[2], v[3], v[4]);
            default: return x.put(v[0] & 3, draw(6));
        }
    }
}
