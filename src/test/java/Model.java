import java.math.BigInteger;
import java.util.ArrayList;
import java.util.Arrays;
import java.util.HashMap;
import java.util.List;
import java.util.Map;
import java.util.TreeSet;

/**
 * A second telling of the document, by whole numbers of any size and by words as texts of digits: what words do is found
 * by doing it to all OWNS, and lengths, forms and what lies below by looking through all words.
 */
final class Model {
    static final int[][] MEETS = {{0, 0}, {1, 1}, {1, 2}, {2, 1}, {1, 3}, {3, 1}, {2, 2}, {1, 4}, {4, 1}};
    private static final BigInteger GREATEST = BigInteger.TEN.pow(12);

    final int mirrors;
    final int[][] numbers;
    // Of each image of the OWNS the first word that makes it, of the fewest mirrors.
    final Map<String, String> formOf = new HashMap<>();
    final List<List<String>> formsOfLength = new ArrayList<>();

    /** What a turn throws that is beyond 10^12 where the document's own steps are followed. */
    static final class Great extends RuntimeException {
        private static final long serialVersionUID = 1L;
    }

    Model(int mirrors, int[][] numbers) {
        this.mirrors = mirrors;
        this.numbers = numbers;
    }

    MirrorBench bench() {
        MirrorBench x = new MirrorBench();
        for (int i = 0; i < mirrors; i++) x.mirror(0);
        for (int i = 0; i < mirrors; i++) {
            for (int j = i + 1; j < mirrors; j++) {
                if (numbers[i][j] != 0) x.meet(i, j, numbers[i][j], numbers[j][i]);
            }
        }
        return x;
    }

    BigInteger[] own(int i) {
        BigInteger[] root = new BigInteger[mirrors];
        Arrays.fill(root, BigInteger.ZERO);
        root[i] = BigInteger.ONE;
        return root;
    }

    BigInteger[] turned(BigInteger[] root, int i) {
        BigInteger[] to = root.clone();
        to[i] = root[i].negate();
        for (int j = 0; j < mirrors; j++) {
            if (j != i) to[i] = to[i].add(root[j].multiply(BigInteger.valueOf(numbers[i][j])));
        }
        return to;
    }

    BigInteger[] turnedOrGreat(BigInteger[] root, int i) {
        BigInteger[] to = turned(root, i);
        if (to[i].abs().compareTo(GREATEST) > 0) throw new Great();
        return to;
    }

    BigInteger[] image(String word, BigInteger[] root) {
        BigInteger[] to = root;
        for (int k = word.length() - 1; k >= 0; k--) to = turned(to, word.charAt(k) - '0');
        return to;
    }

    String key(String word) {
        StringBuilder all = new StringBuilder();
        for (int i = 0; i < mirrors; i++) all.append(Arrays.toString(image(word, own(i))));
        return all.toString();
    }

    /** Looks through all words up to a length, shorter ones first and of one length in order. */
    void lookThrough(int length) {
        formOf.put(key(""), "");
        formsOfLength.add(List.of(""));
        for (int n = 1; n <= length; n++) {
            List<String> found = new ArrayList<>();
            for (String shorter : formsOfLength.get(n - 1)) {
                for (int s = 0; s < mirrors; s++) {
                    String word = shorter + s;
                    if (formOf.putIfAbsent(key(word), word) == null) found.add(word);
                }
            }
            formsOfLength.add(found);
        }
    }

    String form(String word) {
        return formOf.get(key(word));
    }

    int length(String word) {
        return form(word).length();
    }

    static String inverted(String word) {
        return new StringBuilder(word).reverse().toString();
    }

    static String without(String word, int k) {
        return word.substring(0, k) + word.substring(k + 1);
    }

    /** SHORT by lengths: what goes is the one place without which the word is the same as with s behind it. */
    String shortByLengths(String word) {
        String made = "";
        for (char s : word.toCharArray()) {
            String longer = made + s;
            if (length(longer) > made.length()) {
                made = longer;
                continue;
            }
            String want = key(longer);
            String left = null;
            for (int k = 0; k < made.length(); k++) {
                if (key(without(made, k)).equals(want)) left = without(made, k);
            }
            made = left;
        }
        return made;
    }

    int downs(String word, boolean ahead) {
        int bits = 0;
        for (int s = 0; s < mirrors; s++) {
            if (length(ahead ? s + word : word + s) < length(word)) bits |= 1 << s;
        }
        return bits;
    }

    boolean isBelow(String lower, String upper) {
        String want = key(lower);
        String made = form(upper);
        for (int left = 0; left < 1 << made.length(); left++) {
            StringBuilder part = new StringBuilder();
            for (int k = 0; k < made.length(); k++) {
                if ((left >> k & 1) == 0) part.append(made.charAt(k));
            }
            if (key(part.toString()).equals(want)) return true;
        }
        return false;
    }

    /** v and u of a word: of all v of mirrors of a set alone, the one that leaves the shortest u. */
    String[] parts(String word, int bits) {
        String[] best = null;
        for (String v : formOf.values()) {
            boolean inside = true;
            for (char s : v.toCharArray()) inside &= (bits >> s - '0' & 1) == 1;
            if (!inside) continue;
            String u = form(inverted(v) + word);
            if (u != null && (best == null || u.length() < best[1].length())) best = new String[] {v, u};
        }
        return best;
    }

    /** All roots above 0 up to a height, as texts in their order, found by turning any root that is not higher than a bound. */
    List<List<String>> rootsByHeight(int height, int bound) {
        List<TreeSet<List<Integer>>> found = new ArrayList<>();
        for (int h = 0; h <= bound; h++) {
            found.add(new TreeSet<>((a, b) -> {
                for (int k = 0; k < a.size(); k++) {
                    if (!a.get(k).equals(b.get(k))) return b.get(k) - a.get(k);
                }
                return 0;
            }));
        }
        List<BigInteger[]> open = new ArrayList<>();
        for (int i = 0; i < mirrors; i++) open.add(own(i));
        while (!open.isEmpty()) {
            BigInteger[] root = open.remove(open.size() - 1);
            List<Integer> row = new ArrayList<>();
            int sum = 0;
            boolean above = true;
            for (BigInteger number : root) {
                row.add(number.intValue());
                sum += number.intValue();
                above &= number.signum() >= 0;
            }
            if (!above || sum > bound || !found.get(sum).add(row)) continue;
            for (int i = 0; i < mirrors; i++) open.add(turned(root, i));
        }
        List<List<String>> texts = new ArrayList<>();
        for (int h = 0; h <= height; h++) {
            List<String> row = new ArrayList<>();
            for (List<Integer> root : found.get(h)) row.add(root.toString().replaceAll("[\\[\\],]", ""));
            texts.add(row);
        }
        return texts;
    }

    // ---- the document's own steps, turn by turn

    private static boolean isOwn(BigInteger[] root, int i) {
        for (int j = 0; j < root.length; j++) {
            if (root[j].intValue() != (j == i ? 1 : 0) || root[j].bitLength() > 1) return false;
        }
        return true;
    }

    /** The place that goes; -1: none. */
    int goes(String made, int s, boolean ahead) {
        BigInteger[] root = own(s);
        for (int n = 0; n < made.length(); n++) {
            int k = ahead ? n : made.length() - 1 - n;
            if (isOwn(root, made.charAt(k) - '0')) return k;
            root = turnedOrGreat(root, made.charAt(k) - '0');
        }
        return -1;
    }

    String toldShort(String word) {
        String made = "";
        for (char s : word.toCharArray()) {
            int place = goes(made, s - '0', false);
            made = place < 0 ? made + s : without(made, place);
        }
        return made;
    }

    /** v and what is left of a short word. */
    String[] toldParts(String made, int bits) {
        String v = "";
        String left = made;
        for (int s = 0; s < mirrors; s++) {
            if ((bits >> s & 1) == 0) continue;
            int place = goes(left, s, true);
            if (place < 0) continue;
            left = without(left, place);
            v += s;
            s = -1;
        }
        return new String[] {v, left};
    }

    String toldForm(String word) {
        return toldParts(toldShort(word), -1)[0];
    }

    BigInteger[] toldImage(String word, BigInteger[] root) {
        BigInteger[] to = root;
        for (int k = word.length() - 1; k >= 0; k--) to = turnedOrGreat(to, word.charAt(k) - '0');
        return to;
    }

    long toldDoes(String word, int i, int j) {
        return toldImage(word, own(i))[j].longValueExact();
    }

    int toldDowns(String word, boolean ahead) {
        String made = toldShort(word);
        int bits = 0;
        for (int s = 0; s < mirrors; s++) {
            if (goes(made, s, ahead) >= 0) bits |= 1 << s;
        }
        return bits;
    }

    int toldBelow(String lower, String upper) {
        String left = toldShort(lower);
        String from = toldShort(upper);
        for (int k = from.length() - 1; k >= 0; k--) {
            int place = goes(left, from.charAt(k) - '0', false);
            if (place >= 0) left = without(left, place);
        }
        return left.isEmpty() ? 1 : 0;
    }

    int toldOrder(String word) {
        BigInteger[][] images = new BigInteger[mirrors][];
        for (int i = 0; i < mirrors; i++) images[i] = own(i);
        for (int n = 1; n <= 30; n++) {
            boolean back = true;
            for (int i = 0; i < mirrors; i++) {
                images[i] = toldImage(word, images[i]);
                back &= isOwn(images[i], i);
            }
            if (back) return n;
        }
        return -2;
    }

    long toldWall(String a, String b, int k, int j) {
        String way = toldForm(inverted(a) + b);
        if (k >= way.length()) return -10000000000001L;
        BigInteger[] root = toldImage(a, toldImage(way.substring(0, k), own(way.charAt(k) - '0')));
        boolean below = false;
        for (BigInteger number : root) below |= number.signum() < 0;
        return (below ? root[j].negate() : root[j]).longValueExact();
    }
}
