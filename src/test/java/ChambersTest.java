/** Promises 31 to 33: parts, ways and walls. */
public final class ChambersTest {
    private static final long BAD = -10000000000001L, GREAT = -10000000000004L;
    private static final int MIN = Integer.MIN_VALUE, MAX = Integer.MAX_VALUE;

    public static void main(String[] args) {
        parts();
        partsByKinds();
        partsRefused();
        way();
        wall();
        tooLong();
        tooGreat();
        greatBehindTheWay();
        greatFormOfAPart();
        Due.end();
    }

    private static MirrorBench line() {
        return Due.bench(3, Due.meet(0, 1, 1, 1), Due.meet(1, 2, 1, 1));
    }

    private static void part(MirrorBench x, String word, int bits, String v, String u) {
        Due.write(x, 0, word);
        Due.is("parts(0, " + bits + ", 1, 2) of " + word, x.parts(0, bits, 1, 2), v.length());
        Due.is("part " + bits + " of " + word, Due.read(x, 1), v);
        Due.is("rest " + bits + " of " + word, Due.read(x, 2), u);
        Due.is("word behind parts", Due.read(x, 0), word);
    }

    private static void parts() {
        MirrorBench x = line();
        part(x, "", 7, "", "");
        part(x, "010210", 0, "", "010210");
        part(x, "010210", 7, "010210", "");
        part(x, "010210", 63, "010210", "");
        part(x, "010210", 3, "010", "210");
        part(x, "010210", 6, "121", "012");
        part(x, "010210", 5, "02", "1021");
        part(x, "010210", 8, "", "010210");
        part(x, "2012", 5, "02", "12");
        part(x, "2012", 4, "2", "012");
        part(x, "101", 1, "0", "10");
        part(x, "101", 2, "1", "01");
        part(x, "101", -2, "1", "01");
        part(x, "101", MIN, "", "010");
        part(x, "101", MAX, "010", "");
        part(x, "0011", 3, "", "");
        part(x, "0100", 3, "01", "");
        Due.write(x, 4, "1012");
        Due.is("parts(4, 2, 4, 5)", x.parts(4, 2, 4, 5), 1);
        Due.is("part in its own slot", Due.read(x, 4) + "," + Due.read(x, 5), "1,012");
        Due.write(x, 4, "1012");
        Due.is("parts(4, 2, 5, 4)", x.parts(4, 2, 5, 4), 1);
        Due.is("rest in its own slot", Due.read(x, 5) + "," + Due.read(x, 4), "1,012");
    }

    /** THE PART are the mirrors that are not STILL; CLEAR ones are STILL. */
    private static void partsByKinds() {
        MirrorBench x = line();
        part(x, "010210", -1, "010210", "");
        x.kind(2, 1);
        part(x, "010210", -1, "010", "210");
        x.kind(0, 2);
        part(x, "010210", -1, "1", "01210");
        x.kind(1, 2);
        part(x, "010210", -1, "", "010210");
        part(x, "010210", 3, "010", "210");
        MirrorBench six = Due.bench(6, Due.meet(4, 5, 1, 1));
        six.kind(1, 1);
        six.kind(5, 2);
        part(six, "5410", -1, "0", "154");
        part(six, "45410", -1, "04", "154");
    }

    private static void partsRefused() {
        MirrorBench x = line();
        Due.write(x, 1, "0");
        Due.write(x, 2, "1");
        Due.is("parts(0, 1, 1, 1)", x.parts(0, 1, 1, 1), -1);
        Due.is("parts(8, 1, 1, 2)", x.parts(8, 1, 1, 2), -1);
        Due.is("parts(-1, 1, 1, 2)", x.parts(-1, 1, 1, 2), -1);
        Due.is("parts(0, 1, 8, 2)", x.parts(0, 1, 8, 2), -1);
        Due.is("parts(0, 1, -1, 2)", x.parts(0, 1, -1, 2), -1);
        Due.is("parts(0, 1, 1, 8)", x.parts(0, 1, 1, 8), -1);
        Due.is("parts(0, 1, 1, -1)", x.parts(0, 1, 1, -1), -1);
        Due.is("words behind refused calls", Due.read(x, 1) + "," + Due.read(x, 2), "0,1");
    }

    private static void way() {
        MirrorBench x = line();
        Due.write(x, 0, "012");
        Due.write(x, 1, "1");
        Due.is("way(0, 1, 2)", x.way(0, 1, 2), 4);
        Due.is("word of way(0, 1, 2)", Due.read(x, 2), "0210");
        Due.is("way(1, 0, 2)", x.way(1, 0, 2), 4);
        Due.is("word of way(1, 0, 2)", Due.read(x, 2), "0102");
        Due.is("way(0, 0, 2)", x.way(0, 0, 2), 0);
        Due.is("at(2, -1)", x.at(2, -1), 0);
        Due.is("way(2, 0, 0)", x.way(2, 0, 0), 3);
        Due.is("word of way(2, 0, 0)", Due.read(x, 0), "012");
        Due.is("way(0, 2, 0)", x.way(0, 2, 0), 3);
        Due.is("word of way(0, 2, 0)", Due.read(x, 0), "210");
        Due.is("way(8, 0, 0)", x.way(8, 0, 0), -1);
        Due.is("way(0, 8, 0)", x.way(0, 8, 0), -1);
        Due.is("way(0, 0, 8)", x.way(0, 0, 8), -1);
        Due.is("way(-1, 0, 0)", x.way(-1, 0, 0), -1);
    }

    private static void wall() {
        MirrorBench x = line();
        Due.write(x, 0, "012");
        Due.write(x, 1, "1");
        // From the chamber of 012 the way is 0 2 1 0.
        int[][] walls = {{0, 1, 0}, {1, 1, 1}, {1, 0, 0}, {1, 1, 0}};
        for (int k = 0; k < 4; k++) {
            for (int j = 0; j < 3; j++) Due.is("wall(0, 1, " + k + ", " + j + ")", x.wall(0, 1, k, j), walls[k][j]);
        }
        Due.is("wall(0, 1, 4, 0)", x.wall(0, 1, 4, 0), BAD);
        Due.is("wall(0, 1, -1, 0)", x.wall(0, 1, -1, 0), BAD);
        Due.is("wall(0, 1, MAX, 0)", x.wall(0, 1, MAX, 0), BAD);
        Due.is("wall(0, 1, MIN, 0)", x.wall(0, 1, MIN, 0), BAD);
        Due.is("wall(0, 1, 0, 3)", x.wall(0, 1, 0, 3), BAD);
        Due.is("wall(0, 1, 0, -1)", x.wall(0, 1, 0, -1), BAD);
        Due.is("wall(8, 1, 0, 0)", x.wall(8, 1, 0, 0), BAD);
        Due.is("wall(0, 8, 0, 0)", x.wall(0, 8, 0, 0), BAD);
        Due.is("wall(-1, 0, 0, 0)", x.wall(-1, 0, 0, 0), BAD);
        Due.is("wall(0, 0, 0, 0)", x.wall(0, 0, 0, 0), BAD);
        Due.is("words behind wall", Due.read(x, 0) + "," + Due.read(x, 1), "012,1");
    }

    private static void tooLong() {
        MirrorBench x = line();
        Due.write(x, 0, Due.times("01", 25));
        Due.write(x, 1, Due.times("12", 25) + "1");
        Due.write(x, 3, "0");
        Due.is("way(0, 1, 3)", x.way(0, 1, 3), -3);
        Due.is("way(1, 0, 3)", x.way(1, 0, 3), -3);
        Due.is("word behind FULL", Due.read(x, 3), "0");
        Due.is("wall(0, 1, 0, 0)", x.wall(0, 1, 0, 0), BAD);
        Due.is("way(0, 0, 3)", x.way(0, 0, 3), 0);
        Due.is("way(0, 1, 8)", x.way(0, 1, 8), -1);
    }

    private static void tooGreat() {
        MirrorBench x = Due.bench(3, Due.meet(0, 1, 4, 1), Due.meet(1, 2, 4, 1), Due.meet(2, 0, 4, 1));
        Due.write(x, 0, Due.times("012", 30));
        Due.write(x, 1, "0");
        Due.write(x, 2, "1");
        Due.is("parts(0, 1, 1, 2)", x.parts(0, 1, 1, 2), -4);
        Due.is("parts(0, 0, 1, 2)", x.parts(0, 0, 1, 2), -4);
        Due.is("way(0, 3, 1)", x.way(0, 3, 1), -4);
        Due.is("way(3, 0, 1)", x.way(3, 0, 1), -4);
        Due.is("way(0, 0, 1)", x.way(0, 0, 1), -3);
        Due.is("wall(3, 0, 0, 0)", x.wall(3, 0, 0, 0), GREAT);
        Due.is("wall(3, 0, -1, 0)", x.wall(3, 0, -1, 0), BAD);
        Due.is("wall(3, 0, 0, 3)", x.wall(3, 0, 0, 3), BAD);
        Due.is("words behind GREAT", Due.read(x, 1) + "," + Due.read(x, 2), "0,1");
    }

    /** The way is short, but what a's word does to its first mirror goes too far. */
    private static void greatBehindTheWay() {
        MirrorBench x = Due.bench(4, Due.meet(1, 0, 1, 3), Due.meet(2, 0, 1, 2), Due.meet(2, 1, 1, 4), Due.meet(3, 0, 1, 4),
            Due.meet(3, 1, 2, 2), Due.meet(3, 2, 1, 2));
        String a = "0212013333201202320321313201333000310310323";
        Due.write(x, 0, a);
        Due.write(x, 1, a + "3");
        Due.is("way(0, 1, 2)", x.way(0, 1, 2), 1);
        Due.is("word of way(0, 1, 2)", Due.read(x, 2), "3");
        Due.is("wall(0, 1, 0, 0)", x.wall(0, 1, 0, 0), GREAT);
        Due.is("wall(0, 1, 1, 0)", x.wall(0, 1, 1, 0), BAD);
    }

    /** SHORT and the parts go well, but a turn for a FORM of them is GREAT. */
    private static void greatFormOfAPart() {
        MirrorBench x = Due.bench(4, Due.meet(1, 0, 3, 1), Due.meet(2, 0, 1, 3), Due.meet(2, 1, 3, 1), Due.meet(3, 0, 1, 3),
            Due.meet(3, 1, 1, 2), Due.meet(3, 2, 1, 1));
        Due.write(x, 0, "10031202300102101212031012100122021213213320001");
        Due.write(x, 1, "1");
        Due.write(x, 2, "2");
        Due.is("shorten(0, 3)", x.shorten(0, 3) > 0 ? 1 : 0, 1);
        Due.is("parts(0, 0, 1, 2)", x.parts(0, 0, 1, 2), -4);
        Due.is("words behind GREAT", Due.read(x, 1) + "," + Due.read(x, 2), "1,2");
    }
}
