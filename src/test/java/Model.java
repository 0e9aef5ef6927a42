import java.math.BigInteger;
import java.util.ArrayList;
import java.util.HashMap;
import java.util.List;
import java.util.Map;
import java.util.regex.Matcher;
import java.util.regex.Pattern;

/** The document told a second time, in the plainest way and without a look at the class. */
final class Model {
    private static final int BAD = -1, NO = -2, FULL = -3, NONE = -4;
    private static final Pattern ITEM = Pattern.compile("([a-z])(\\d{1,2}(?:,\\d{1,2})*);");

    long got;
    long want;
    String text = "";
    int n = 30;
    int d = 1;
    List<int[]> players = new ArrayList<>(); // X, V, Z, S, K
    List<int[]> told = new ArrayList<>(); // J, B, H, LETTERS
    List<int[]> seen = new ArrayList<>();
    List<List<int[]>> undone = new ArrayList<>();
    List<List<int[]>> kept = new ArrayList<>();

    int newN;
    int newD;
    List<int[]> newPlayers;
    List<int[]> newTold;

    Model() {
        String first = "p10,2,5,5,0;p14,2,5,3,0;p20,3,4,6,0;";
        text = first;
        lay();
        text = "";
    }

    String says(String call, long answered, long due) {
        got = answered;
        want = due;
        return call;
    }

    int write(int bytes, long v) {
        if (bytes < 1 || bytes > 8) {
            return BAD;
        }
        if (text.length() + bytes > 300) {
            return FULL;
        }
        StringBuilder behind = new StringBuilder();
        for (long rest = v; behind.length() < bytes; rest >>= 8) {
            behind.insert(0, (char) (rest & 255));
        }
        text += behind;
        return text.length();
    }

    int wipe() {
        int was = text.length();
        text = "";
        return was;
    }

    int fault() {
        newN = 30;
        newD = 1;
        newPlayers = new ArrayList<>();
        newTold = new ArrayList<>();
        Matcher item = ITEM.matcher(text);
        int at = 0;
        while (at < text.length()) {
            if (!item.region(at, text.length()).lookingAt()) {
                return at;
            }
            String[] words = item.group(2).split(",");
            int[] v = new int[words.length];
            for (int w = 0; w < v.length; w++) {
                v[w] = Integer.parseInt(words[w]);
            }
            if (!takes(item.group(1), v)) {
                return at;
            }
            at = item.end();
        }
        return NONE;
    }

    private static boolean all(int[] v, int... bounds) {
        if (v.length * 2 != bounds.length) {
            return false;
        }
        for (int w = 0; w < v.length; w++) {
            if (v[w] < bounds[2 * w] || v[w] > bounds[2 * w + 1]) {
                return false;
            }
        }
        return true;
    }

    private boolean takes(String letter, int[] v) {
        int last = newPlayers.size() - 1;
        if (letter.equals("n") && all(v, 5, 40)) {
            newN = v[0];
        } else if (letter.equals("d") && all(v, 0, 3)) {
            newD = v[0];
        } else if (letter.equals("p") && all(v, 0, 40, 1, 5, 1, 9, 0, 9, 0, 3) && newPlayers.size() < 5) {
            newPlayers.add(v);
            newTold.add(new int[] {-1, 0, 0, 0});
        } else if (letter.equals("a") && all(v, 0, last, 0, last, 0, 40, 1, 9) && v[0] != v[1]) {
            System.arraycopy(v, 1, newTold.get(v[0]), 0, 3);
        } else if (letter.equals("l") && all(v, 0, last, 0, 3)) {
            newTold.get(v[0])[3] = v[1];
        } else {
            return false;
        }
        return true;
    }

    int lay() {
        if (fault() != NONE || newPlayers.size() < 2) {
            return NO;
        }
        for (int i = 0; i < newPlayers.size(); i++) {
            int[] t = newTold.get(i);
            if (t[0] < 0) {
                t[0] = (i + 1) % newPlayers.size();
                t[1] = newPlayers.get(t[0])[0];
                t[2] = 1;
            }
            if (newPlayers.get(i)[0] > newN || t[1] > newN) {
                return NO;
            }
        }
        n = newN;
        d = newD;
        players = newPlayers;
        told = newTold;
        seen.clear();
        undone.clear();
        kept.clear();
        return players.size();
    }

    boolean has(int i) {
        return i >= 0 && i < players.size();
    }

    private int[] call(int i) {
        return told.get(i);
    }

    private int kind(int k) {
        return players.get(k)[4];
    }

    int player(int i, int what) {
        if (!has(i) || what < 0 || what > 5) {
            return BAD;
        }
        return what == 5 ? call(i)[3] : players.get(i)[what];
    }

    private int beats(int[] call) {
        int cells = Math.abs(players.get(call[0])[0] - call[1]);
        int beats = 0;
        while (cells > 0) {
            cells -= players.get(call[0])[1];
            beats++;
        }
        while (beats < call[2]) {
            beats++;
        }
        return beats;
    }

    int called(int i, int what) {
        if (!has(i) || what < 0 || what > 3) {
            return BAD;
        }
        return what == 3 ? beats(call(i)) : call(i)[what];
    }

    /** Where k, of this kind, stands at stop: cell by cell. */
    private int stop(int[] call, int k, int kind) {
        int ball = call[1];
        if (k == call[0]) {
            return ball;
        }
        int x = players.get(k)[0];
        int up = x >= ball ? 1 : -1;
        for (int beat = kind == 1 ? 1 : 0; beat < beats(call); beat++) {
            for (int c = 0; c < players.get(k)[1]; c++) {
                if (kind != 2) {
                    x = step(x, up);
                } else if (x != ball) {
                    x -= up;
                }
            }
        }
        for (int c = 0; c < d && kind != 2; c++) {
            x = step(x, up);
        }
        return x;
    }

    int stop(int i, int k, int kind) {
        return stop(call(i), k, kind);
    }

    private int step(int x, int up) {
        return x + up < 0 || x + up > n ? x : x + up;
    }

    int stands(int i, int k) {
        return has(i) && has(k) ? stop(i, k, kind(k)) : BAD;
    }

    private int[] stops(int[] call, int[] kinds) {
        int[] stops = new int[players.size()];
        for (int k = 0; k < stops.length; k++) {
            stops[k] = stop(call, k, kinds[k]);
        }
        return stops;
    }

    private int[] kinds() {
        int[] kinds = new int[players.size()];
        for (int k = 0; k < kinds.length; k++) {
            kinds[k] = kind(k);
        }
        return kinds;
    }

    private int hider(int[] call, int[] stops, int k) {
        int at = call[1];
        for (int step = 0; step < 3 && at != stops[k]; step++) {
            at += stops[k] > at ? 1 : -1;
        }
        for (int third = 0; third < stops.length; third++) {
            if (third == k || third == call[0] || players.get(third)[2] < players.get(k)[2]) {
                continue;
            }
            if (at < stops[third] && stops[third] < stops[k] || stops[k] < stops[third] && stops[third] < at) {
                return third;
            }
        }
        return NONE;
    }

    private int chance(int[] call, int[] kinds, int k) {
        int[] stops = stops(call, kinds);
        int far = Math.max(0, Math.abs(stops[k] - call[1]) - 3);
        int size = players.get(k)[2];
        int chance = (kinds[k] == 3 ? size / 2 : size) + players.get(call[0])[3] - far;
        chance = chance < 0 ? 0 : chance > 10 ? 10 : chance;
        return hider(call, stops, k) == NONE ? chance : chance / 2;
    }

    private int[] throwing(int[] call, int[] kinds) {
        int[] best = null;
        for (int k = 0; k < players.size(); k++) {
            if (k != call[0]) {
                int chance = chance(call, kinds, k);
                if (best == null || chance > best[1]) {
                    best = new int[] {k, chance};
                }
            }
        }
        return best;
    }

    int chance(int i, int k) {
        return has(i) && has(k) && call(i)[0] != k ? chance(call(i), kinds(), k) : BAD;
    }

    int thrown(int i, int what) {
        return has(i) && what >= 0 && what <= 1 ? throwing(call(i), kinds())[what] : BAD;
    }

    int hidden(int i, int k) {
        return has(i) && has(k) && call(i)[0] != k ? hider(call(i), stops(call(i), kinds()), k) : BAD;
    }

    int safe(int i, int what) {
        if (!has(i) || what < 0 || what > 3) {
            return BAD;
        }
        int[] best = null;
        for (int j = 0; j < players.size(); j++) {
            for (int b = 0; j != i && b <= n; b++) {
                for (int h = 1; h <= 9; h++) {
                    int[] thrown = throwing(new int[] {j, b, h}, kinds());
                    if (thrown[0] != i && (best == null || thrown[1] < best[3])) {
                        best = new int[] {j, b, h, thrown[1]};
                    }
                }
            }
        }
        return best == null ? NONE : best[what];
    }

    int run(int i, int k, int what) {
        if (!has(i) || !has(k) || call(i)[0] == k || what < 0 || what > 1) {
            return BAD;
        }
        int[] best = null;
        for (int kind = 3; kind >= 0; kind--) {
            int[] kinds = kinds();
            kinds[k] = kind;
            int[] thrown = throwing(call(i), kinds);
            int chance = thrown[0] == k ? thrown[1] : 0;
            if (best == null || chance <= best[1]) {
                best = new int[] {kind, chance};
            }
        }
        return best[what];
    }

    /** As fractions: that each is the one, and how many rounds it goes. */
    private BigInteger[][] odds(int[] letters, int i, Map<String, BigInteger[][]> known) {
        String state = java.util.Arrays.toString(letters) + i;
        if (known.containsKey(state)) {
            return known.get(state);
        }
        int size = players.size();
        int[] thrown = throwing(call(i), kinds());
        BigInteger[][] sum = new BigInteger[size + 1][];
        for (int k = 0; k <= size; k++) {
            sum[k] = new BigInteger[] {k == size ? BigInteger.ONE : BigInteger.ZERO, BigInteger.ONE};
        }
        addOdds(sum, letters, thrown[0], thrown[1], known);
        addOdds(sum, letters, call(i)[0], 10 - thrown[1], known);
        known.put(state, sum);
        return sum;
    }

    private void addOdds(BigInteger[][] sum, int[] letters, int taker, int tenths, Map<String, BigInteger[][]> known) {
        BigInteger[] part = {BigInteger.valueOf(tenths), BigInteger.TEN};
        if (letters[taker] == 3) {
            sum[taker] = plus(sum[taker], part);
            return;
        }
        int[] more = letters.clone();
        more[taker]++;
        BigInteger[][] next = odds(more, taker, known);
        for (int k = 0; k < sum.length; k++) {
            sum[k] = plus(sum[k], new BigInteger[] {next[k][0].multiply(part[0]), next[k][1].multiply(part[1])});
        }
    }

    private static BigInteger[] plus(BigInteger[] a, BigInteger[] b) {
        BigInteger above = a[0].multiply(b[1]).add(b[0].multiply(a[1]));
        BigInteger below = a[1].multiply(b[1]);
        BigInteger common = above.gcd(below);
        return new BigInteger[] {above.divide(common), below.divide(common)};
    }

    private int[] lettersNow() {
        int[] letters = new int[players.size()];
        for (int k = 0; k < letters.length; k++) {
            letters[k] = call(k)[3];
        }
        return letters;
    }

    long first(int i, int k, int part) {
        if (!has(i) || !has(k) || part < 0 || part > 1) {
            return BAD;
        }
        return odds(lettersNow(), i, new HashMap<>())[k][part].longValueExact();
    }

    long rounds(int i, int part) {
        if (!has(i) || part < 0 || part > 1) {
            return BAD;
        }
        return odds(lettersNow(), i, new HashMap<>())[players.size()][part].longValueExact();
    }

    private List<int[]> copy() {
        List<int[]> copy = new ArrayList<>();
        for (int[] t : told) {
            copy.add(t.clone());
        }
        return copy;
    }

    private void change() {
        undone.add(copy());
        if (undone.size() > 8) {
            undone.remove(0);
        }
    }

    int call(int i, int j, int b, int h) {
        if (!has(i) || !has(j) || i == j || b < 0 || b > n || h < 1 || h > 9) {
            return BAD;
        }
        change();
        told.set(i, new int[] {j, b, h, call(i)[3]});
        return undone.size();
    }

    int letters(int i, int l) {
        if (!has(i) || l < 0 || l > 3) {
            return BAD;
        }
        change();
        int had = call(i)[3];
        call(i)[3] = l;
        return had;
    }

    int undo() {
        if (undone.isEmpty()) {
            return NO;
        }
        told = undone.remove(undone.size() - 1);
        return undone.size();
    }

    int seen(int i, int k, int x) {
        if (!has(i) || !has(k) || x < 0 || x > n) {
            return BAD;
        }
        if (seen.size() == 8) {
            return FULL;
        }
        seen.add(new int[] {i, k, x});
        return seen.size();
    }

    int forget() {
        int size = seen.size();
        seen.clear();
        return size;
    }

    int kinds(int k) {
        if (!has(k)) {
            return BAD;
        }
        int bits = 15;
        for (int[] s : seen) {
            for (int kind = 0; kind < 4; kind++) {
                if (s[1] == k && stop(s[0], k, kind) != s[2]) {
                    bits &= ~(1 << kind);
                }
            }
        }
        return bits;
    }

    int afternoon(int z, int what) {
        if (z < 0 || z > 9999 || what < 0 || what > 1) {
            return BAD;
        }
        int[] letters = lettersNow();
        int i = 0;
        for (int t = 0;; t++) {
            BigInteger x = BigInteger.valueOf(7919L * z + 6151L * t + 1);
            int drawn = x.multiply(x).mod(BigInteger.valueOf(65521)).intValue() % 10;
            int[] thrown = throwing(call(i), kinds());
            i = drawn < thrown[1] ? thrown[0] : call(i)[0];
            letters[i]++;
            if (letters[i] == 4) {
                return what == 0 ? i : t + 1;
            }
        }
    }

    int keep() {
        if (kept.size() == 2) {
            return FULL;
        }
        kept.add(copy());
        return kept.size();
    }

    int back() {
        if (kept.isEmpty()) {
            return NO;
        }
        told = kept.remove(kept.size() - 1);
        undone.clear();
        return kept.size();
    }

    int count(int what) {
        int[] counts = {players.size(), n, d, seen.size(), undone.size(), kept.size(), text.length()};
        return what >= 0 && what < counts.length ? counts[what] : BAD;
    }
}
