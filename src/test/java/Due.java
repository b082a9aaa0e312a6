/** What the tests share: answers that are due, and words written as digits. */
final class Due {
    private static int asked = 0;
    private static int wrong = 0;

    static void is(String call, long got, long want) {
        asked++;
        if (got == want) return;
        wrong++;
        if (wrong <= 40) System.out.println(call + " answered " + got + ", due is " + want);
    }

    static void is(String call, String got, String want) {
        asked++;
        if (got.equals(want)) return;
        wrong++;
        if (wrong <= 40) System.out.println(call + " left '" + got + "', due is '" + want + "'");
    }

    static void end() {
        System.out.println(asked + " answers, " + wrong + " not as due");
        if (wrong != 0 || asked == 0) System.exit(1);
    }

    /** A new object with so many PLAIN mirrors; each row of meets is i, j, x, y. */
    static MirrorBench bench(int mirrors, int[]... meets) {
        MirrorBench x = new MirrorBench();
        for (int i = 0; i < mirrors; i++) is("mirror(0)", x.mirror(0), i);
        for (int[] m : meets) x.meet(m[0], m[1], m[2], m[3]);
        return x;
    }

    static int[] meet(int i, int j, int x, int y) {
        return new int[] {i, j, x, y};
    }

    /** A slot gets a word; its mirrors are digits. */
    static void write(MirrorBench x, int slot, String word) {
        x.clear(slot);
        for (int k = 0; k < word.length(); k++) {
            is("put(" + slot + ", " + word.charAt(k) + ")", x.put(slot, word.charAt(k) - '0'), k + 1);
        }
    }

    static String read(MirrorBench x, int slot) {
        StringBuilder word = new StringBuilder();
        for (int k = 0; k < x.at(slot, -1); k++) word.append((char) ('0' + x.at(slot, k)));
        return word.toString();
    }

    static String root(MirrorBench x, int i) {
        StringBuilder numbers = new StringBuilder();
        for (int j = 0; j < x.told(3, 0, 0); j++) numbers.append(j == 0 ? "" : " ").append(x.root(i, j));
        return numbers.toString();
    }

    static String times(String part, int n) {
        return part.repeat(n);
    }
}
