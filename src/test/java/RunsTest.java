/**
 * All promises from call to call: whole runs drawn by a told rule, against Desk and Model. They go on behind the 512th call,
 * where the document leaves the answers free: the class counts no calls.
 */
public final class RunsTest {
    private static final long DOWN = 10000000000000L;
    private static final long NONE = Long.MIN_VALUE;
    private static final int[] ODD = {-1, -2, 40, 41, 99, 100, 101, Integer.MAX_VALUE, Integer.MIN_VALUE};
    private static long drawn = 20261120;
    private static int runs;

    private final MirrorBench x = new MirrorBench();
    private final Desk desk = new Desk();
    private final int run = ++runs;

    private static int draw(int below) {
        drawn = drawn * 6364136223846793005L + 1442695040888963407L;
        return (int) ((drawn >>> 33) % below);
    }

    /** Mostly a number below a bound, at times the bound itself or one far off. */
    private static int draw(int below, int odds) {
        int kind = draw(odds);
        return kind == 0 ? ODD[draw(ODD.length)] : kind == 1 ? below : draw(Math.max(below, 1));
    }

    public static void main(String[] args) {
        for (int n = 0; n < 900; n++) new RunsTest().play(n);
        Due.end();
    }

    private void play(int round) {
        // Some runs change the set all the time, some stay long with one, so that words grow and turns become GREAT.
        int change = new int[] {4, 25, 100}[round % 3];
        for (int i = 0; i < round % 7; i++) due("mirror", x.mirror(0), desk.mirror(0));
        for (int n = draw(16); n > 0; n--) meet();
        for (int slot = 0; slot < 8; slot++) fill(slot);
        for (int n = 0; n < 440; n++) {
            int which = draw(change) == 0 ? draw(6) : 6 + draw(34);
            if (draw(20) == 0) fill(draw(8));
            if (which < 6) setCall(which);
            else if (which < 16) wordCall(which);
            else if (which < 21) leafCall(which);
            else if (which < 33) turningCall(which);
            else freshCall(which);
        }
        for (int slot = 0; slot < 8; slot++) Due.is("slot at the end of run " + run, Due.read(x, slot), desk.words[slot]);
    }

    private void due(String call, long got, long want) {
        Due.is(call + " in run " + run, got, want);
    }

    private void setCall(int which) {
        int i = draw(desk.mirrors(), 20);
        int j = draw(desk.mirrors(), 20);
        int kind = draw(3, 20);
        if (which == 0) due("mirror", x.mirror(kind), desk.mirror(kind));
        if (which == 1 || which == 2) meet();
        if (which == 3) due("kind", x.kind(i, kind), desk.kind(i, kind));
        if (which == 4 && draw(desk.mirrors() + 2) > 1) due("less", x.less(), desk.less());
        if (which == 5 && draw(3) == 0) {
            for (int n = draw(9) == 0 ? draw(20) : 1; n > 0; n--) due("undo", x.undo(), desk.undo());
        }
        int what = draw(4, 20);
        due("told " + what + " " + i + " " + j, x.told(what, i, j), desk.told(what, i, j));
    }

    private void meet() {
        int[] meet = Model.MEETS[draw(run % 2 == 0 ? 4 : 9)];
        int i = draw(desk.mirrors(), 20);
        int j = draw(desk.mirrors(), 20);
        int u = draw(20) == 0 ? draw(5, 9) : meet[0];
        int v = draw(20) == 0 ? draw(5, 9) : meet[1];
        due("meet " + i + " " + j + " " + u + " " + v, x.meet(i, j, u, v), desk.meet(i, j, u, v));
    }

    private void fill(int slot) {
        for (int n = draw(draw(3) == 0 ? 60 : 12); n > 0; n--) {
            int s = draw(desk.mirrors(), 60);
            due("put", x.put(slot, s), desk.put(slot, s));
        }
    }

    private void wordCall(int which) {
        int a = draw(8, 40);
        int b = draw(8, 40);
        int to = draw(8, 40);
        int k = draw(8, 20);
        if (which == 6 && draw(3) == 0) due("clear", x.clear(a), desk.clear(a));
        if (which == 7) fill(a);
        if (which == 8 && Desk.areSlots(a)) {
            k = draw(Math.max(1, desk.words[a].length()));
            due("cut " + k, x.cut(a, k), desk.cut(a, k));
            due("change " + k, x.change(a, k), desk.change(a, k));
        }
        if (which == 9) due("at " + k, x.at(a, k), desk.at(a, k));
        if (which == 10) due("times", x.times(a, b, to), desk.times(a, b, to));
        if (which == 11) due("back", x.back(a, to), desk.back(a, to));
        if (which == 12) due("without", x.without(a, to), desk.without(a, to));
        if (which == 13) due("cut " + k, x.cut(a, k), desk.cut(a, k));
        if (which == 14) due("change " + k, x.change(a, k), desk.change(a, k));
        if (which == 15 && Desk.areSlots(a)) Due.is("slot in run " + run, Due.read(x, a), desk.words[a]);
    }

    private void leafCall(int which) {
        int leaf = draw(4, 40);
        int to = draw(4, 40);
        int lane = draw(3, 40);
        int n = draw(9, 9);
        int i = draw(9, 12);
        int j = draw(9, 12);
        long v = draw(6) == 0 ? 1L << draw(64) : draw(7);
        // Mostly leaf 0 is of lane 0, and so on, so that the calls behind find what they take it for.
        if (draw(3) > 0 && leaf >= 0) lane = leaf % 3;
        if (draw(2) == 0 && leaf == 0) to = 3;
        if (which == 16) due("leaf", x.leaf(leaf, lane, n), desk.leaf(leaf, lane, n));
        if (which == 17 && draw(6) == 0) due("drop", x.drop(leaf), desk.drop(leaf));
        if (which == 18) due("item", x.item(leaf, lane, i, v), desk.item(leaf, lane, i, v));
        if (which == 19) due("copy " + i + " " + j + " " + n, x.copy(leaf, i, to, j, n), desk.copy(leaf, i, to, j, n));
        if (which == 20) due("word " + i + " " + n, x.word(j, leaf, lane, i, n), desk.word(j, leaf, lane, i, n));
    }

    private void turningCall(int which) {
        int a = draw(8, 40);
        int b = draw(8, 40);
        int to = draw(8, 40);
        int rest = draw(8, 40);
        int i = draw(desk.mirrors(), 40);
        int j = draw(desk.mirrors(), 40);
        int k = draw(12, 40);
        int bits = draw(4) == 0 ? -1 : draw(64, 20);
        long got;
        switch (which) {
            case 21: got = x.shorten(a, to); break;
            case 22: got = x.form(a, to); break;
            case 23: got = x.same(a, b); break;
            case 24: got = x.downs(a, false); break;
            case 25: got = x.downs(a, true); break;
            case 26: got = x.does(a, i, j); break;
            case 27: got = x.order(a); break;
            case 28: got = x.below(a, b); break;
            case 29: got = x.parts(a, bits, to, rest); break;
            case 30: got = x.way(a, b, to); break;
            default: got = x.wall(a, b, k, j); break;
        }
        due("turning call " + which + " " + a + " " + b + " " + to, got, turningDue(which, new int[] {a, b, to, rest, i, j, k, bits}));
        for (int slot : new int[] {to, rest}) {
            if (Desk.areSlots(slot)) Due.is("slot behind call " + which + " in run " + run, Due.read(x, slot), desk.words[slot]);
        }
    }

    private long turningDue(int which, int[] v) {
        long down = which == 26 || which > 30 ? DOWN : 0;
        try {
            long due = toldDue(which, v);
            return due == NONE ? Desk.BAD - down : due;
        } catch (Model.Great great) {
            return -4 - down;
        }
    }

    /** NONE: BAD, or BAD less 10^13. */
    private long toldDue(int which, int[] v) {
        Model m = desk.model();
        boolean two = which == 23 || which == 28;
        boolean one = which >= 24 && which <= 27;
        if (!Desk.areSlots(v[0]) || two && !Desk.areSlots(v[1]) || !two && !one && which < 31 && !Desk.areSlots(v[2])) {
            return NONE;
        }
        String a = desk.words[v[0]];
        switch (which) {
            case 21: return desk.store(m.toldShort(a), v[2]);
            case 22: return desk.store(m.toldForm(a), v[2]);
            case 23: return m.toldForm(a).equals(m.toldForm(desk.words[v[1]])) ? 1 : 0;
            case 24: return m.toldDowns(a, false);
            case 25: return m.toldDowns(a, true);
            case 26: return desk.isMirror(v[4]) && desk.isMirror(v[5]) ? m.toldDoes(a, v[4], v[5]) : NONE;
            case 27: return m.toldOrder(a);
            case 28: return m.toldBelow(a, desk.words[v[1]]);
            case 29: return partsDue(m, a, v);
            case 30: return wayDue(m, a, v);
            default: return wallDue(m, a, v);
        }
    }

    private long partsDue(Model m, String a, int[] v) {
        if (!Desk.areSlots(v[3]) || v[2] == v[3]) return NONE;
        String[] parts = m.toldParts(m.toldShort(a), desk.bits(v[7]));
        String part = m.toldForm(parts[0]);
        desk.store(m.toldForm(parts[1]), v[3]);
        return desk.store(part, v[2]);
    }

    private long wayDue(Model m, String a, int[] v) {
        if (!Desk.areSlots(v[1])) return NONE;
        String b = desk.words[v[1]];
        if (a.length() + b.length() > 100) return Desk.FULL;
        return desk.store(m.toldForm(Model.inverted(a) + b), v[2]);
    }

    private long wallDue(Model m, String a, int[] v) {
        if (!Desk.areSlots(v[1]) || v[6] < 0 || !desk.isMirror(v[5])) return NONE;
        String b = desk.words[v[1]];
        if (a.length() + b.length() > 100) return NONE;
        return m.toldWall(a, b, v[6], v[5]);
    }

    /** What is kept of roots and forms until the set changes is what an object has that only ever had this set. */
    private void freshCall(int which) {
        if (draw(4) != 0) return;
        MirrorBench fresh = desk.model().bench();
        int to = draw(8, 40);
        int height = draw(41, 20);
        int i = draw(60, 20);
        int j = draw(desk.mirrors(), 20);
        int length = draw(13, 20);
        switch (which) {
            case 33: due("roots " + height, x.roots(height), fresh.roots(height)); break;
            case 34: due("root " + i + " " + j, x.root(i, j), fresh.root(i, j)); break;
            case 35: due("ends", x.ends(), fresh.ends()); break;
            case 36: due("count", x.count(), fresh.count()); break;
            case 37: due("longest", x.longest(to), keepFresh(fresh, fresh.longest(to), to)); break;
            case 38: due("forms " + length, x.forms(length), fresh.forms(length)); break;
            default: due("next " + length + " " + i, x.next(length, i, to), keepFresh(fresh, fresh.next(length, i, to), to)); break;
        }
        if (Desk.areSlots(to)) Due.is("slot behind call " + which + " in run " + run, Due.read(x, to), desk.words[to]);
    }

    private long keepFresh(MirrorBench fresh, long answer, int to) {
        return answer < 0 ? answer : desk.store(Due.read(fresh, to), to);
    }
}
