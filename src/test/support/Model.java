import java.math.BigInteger;
import java.util.ArrayList;
import java.util.List;

/**
 * The document, word by word: it goes through whole boxes, counts with BigInteger and keeps nothing that it could
 * work out anew. Tests hold the class against it, and ask it whether an example lies where a test says it does.
 */
final class Model {
    private int mostTries = 200000;
    private int mostRows = 1000;
    private int[][] sheet = {{1}};
    final List<int[][]> tables = new ArrayList<>();
    List<int[]> list = new ArrayList<>();
    private List<Long> listSizes = new ArrayList<>();
    private int[][] way = new int[0][];
    private List<int[]> up = new ArrayList<>();
    private int tries;
    private int found;
    private boolean spent;
    private int[][] foundWay;

    boolean sheet(int n) {
        if (n < 1 || n > 4) {
            return false;
        }
        sheet = new int[n][n];
        return true;
    }

    boolean cell(int i, int k, int v) {
        if (cellOf(i, k) == -100000 || v < -999 || v > 999) {
            return false;
        }
        sheet[i][k] = v;
        return true;
    }

    int cellOf(int i, int k) {
        return of(sheet, i, k);
    }

    private static int of(int[][] t, int i, int k) {
        return i < 0 || k < 0 || i >= t.length || k >= t.length ? -100000 : t[i][k];
    }

    int take() {
        if (tables.size() == 20) {
            return -1;
        }
        for (int i = 0; i < sheet.length; i++) {
            for (int k = 0; k < sheet.length; k++) {
                if (sheet[i][k] != sheet[k][i]) {
                    return -10 - i;
                }
            }
        }
        for (int k = 1; k <= sheet.length; k++) {
            BigInteger[][] corner = new BigInteger[k][k];
            for (int i = 0; i < k; i++) {
                for (int j = 0; j < k; j++) {
                    corner[i][j] = BigInteger.valueOf(sheet[i][j]);
                }
            }
            if (determinant(corner).signum() <= 0) {
                return -20 - k;
            }
        }
        return add(big(sheet));
    }

    private static BigInteger[][] big(int[][] t) {
        BigInteger[][] b = new BigInteger[t.length][t.length];
        for (int i = 0; i < t.length; i++) {
            for (int k = 0; k < t.length; k++) {
                b[i][k] = BigInteger.valueOf(t[i][k]);
            }
        }
        return b;
    }

    private int add(BigInteger[][] t) {
        int[][] small = new int[t.length][t.length];
        for (int i = 0; i < t.length; i++) {
            for (int k = 0; k < t.length; k++) {
                if (t[i][k].abs().compareTo(BigInteger.valueOf(999)) > 0) {
                    return -1;
                }
                small[i][k] = t[i][k].intValueExact();
            }
        }
        tables.add(small);
        return tables.size() - 1;
    }

    /** By all orders of the places. */
    private static BigInteger determinant(BigInteger[][] t) {
        if (t.length == 0) {
            return BigInteger.ONE;
        }
        BigInteger total = BigInteger.ZERO;
        for (int k = 0; k < t.length; k++) {
            BigInteger part = t[0][k].multiply(determinant(without(t, 0, k)));
            total = k % 2 == 0 ? total.add(part) : total.subtract(part);
        }
        return total;
    }

    private static BigInteger[][] without(BigInteger[][] t, int line, int place) {
        BigInteger[][] less = new BigInteger[t.length - 1][t.length - 1];
        for (int i = 0; i < less.length; i++) {
            for (int k = 0; k < less.length; k++) {
                less[i][k] = t[i < line ? i : i + 1][k < place ? k : k + 1];
            }
        }
        return less;
    }

    private static BigInteger co(int[][] t, int i, int k) {
        BigInteger minor = determinant(without(big(t), i, k));
        return (i + k) % 2 == 0 ? minor : minor.negate();
    }

    private static long worth(int[][] t) {
        return determinant(big(t)).longValueExact();
    }

    private boolean has(int a) {
        return a >= 0 && a < tables.size();
    }

    int table(int a, int i, int k) {
        return has(a) ? of(tables.get(a), i, k) : -100000;
    }

    private static long meeting(int[][] t, int[] x, int[] y) {
        long total = 0;
        for (int i = 0; i < t.length; i++) {
            for (int k = 0; k < t.length; k++) {
                total += (long) x[i] * t[i][k] * y[k];
            }
        }
        return total;
    }

    /** Numbers v, from low, for which the square of q * v - p times WORTH is not above bound times CO. */
    private static int[] range(int[][] t, int i, int q, int p, long bound) {
        BigInteger most = BigInteger.valueOf(bound).multiply(co(t, i, i)).divide(big1(worth(t)));
        long reach = most.sqrt().longValueExact();
        long low = (long) Math.floor((double) (p - reach) / q) - 2;
        while (!inside(low, q, p, most)) {
            low++;
        }
        long high = low;
        while (inside(high + 1, q, p, most) && high - low < 400000) {
            high++;
        }
        return new int[] {(int) low, (int) high};
    }

    private static BigInteger big1(long v) {
        return BigInteger.valueOf(v);
    }

    private static boolean inside(long v, int q, int p, BigInteger most) {
        long z = q * v - p;
        return big1(z).multiply(big1(z)).compareTo(most) <= 0;
    }

    private static int[][] box(int[][] t, int q, int[] p, long bound) {
        int[][] box = new int[t.length][];
        for (int i = 0; i < t.length; i++) {
            box[i] = range(t, i, q, p[i], bound);
        }
        return rowsOf(box) > 300000 ? null : box;
    }

    /** Up to a billion; a wider box has no more, as four wide places would go beyond a long. */
    private static long rowsOf(int[][] box) {
        long all = 1;
        for (int[] range : box) {
            all = Math.min(1000000000L, all * (range[1] - range[0] + 1));
        }
        return all;
    }

    /** How many ROWS THE BOX of ROWS up to a SIZE has. */
    static long boxUpTo(int[][] t, int size) {
        int[][] box = new int[t.length][];
        for (int i = 0; i < t.length; i++) {
            box[i] = range(t, i, 1, 0, size);
        }
        return rowsOf(box);
    }

    /** How many ROWS THEIR BOX has, of those NEAREST to a place. */
    static long boxNear(int[][] t, int q, int[] p) {
        int[][] box = new int[t.length][];
        for (int i = 0; i < t.length; i++) {
            box[i] = range(t, i, q, p[i], sizeOfRounding(t, q, p));
        }
        return rowsOf(box);
    }

    /** The SIZE of q * r - p. */
    private static long sizeOfRounding(int[][] t, int q, int[] p) {
        int[] rounded = new int[t.length];
        for (int i = 0; i < t.length; i++) {
            int r = Math.floorDiv(p[i], q);
            r += 2 * (p[i] - q * r) >= q ? 1 : 0;
            rounded[i] = q * r - p[i];
        }
        return meeting(t, rounded, rounded);
    }

    private static int[] firstOf(int[][] box) {
        int[] x = new int[box.length];
        for (int i = 0; i < x.length; i++) {
            x[i] = box[i][0];
        }
        return x;
    }

    private static boolean next(int[] x, int[][] box) {
        for (int i = x.length - 1; i >= 0; i--) {
            if (x[i] < box[i][1]) {
                x[i]++;
                return true;
            }
            x[i] = box[i][0];
        }
        return false;
    }

    /** Rows up to a size in their order, in up; false if spent. */
    private boolean rowsUpTo(int[][] t, int size) {
        int[][] box = box(t, 1, new int[4], size);
        up = new ArrayList<>();
        if (box == null) {
            return false;
        }
        int[] x = firstOf(box);
        do {
            long s = meeting(t, x, x);
            if (s > 0 && s <= size) {
                up.add(x.clone());
            }
        } while (up.size() <= mostRows && next(x, box));
        up.sort((y, z) -> Long.compare(meeting(t, y, y), meeting(t, z, z)));
        return up.size() <= mostRows;
    }

    int rows(int a, int size) {
        if (!has(a) || size < 1 || size > 1000000) {
            return -1;
        }
        if (!rowsUpTo(tables.get(a), size)) {
            return -2;
        }
        list = up;
        listSizes = new ArrayList<>();
        for (int[] x : list) {
            listSizes.add(meeting(tables.get(a), x, x));
        }
        return list.size();
    }

    int theta(int a, int size) {
        if (!has(a) || size < 1 || size > 1000000) {
            return -1;
        }
        if (!rowsUpTo(tables.get(a), size)) {
            return -2;
        }
        int count = 0;
        for (int[] x : up) {
            count += meeting(tables.get(a), x, x) == size ? 1 : 0;
        }
        return count;
    }

    int row(int i, int k) {
        return i < 0 || i >= list.size() || k < 0 || k >= list.get(i).length ? -100000 : list.get(i)[k];
    }

    long size(int i) {
        return i < 0 || i >= list.size() ? -1 : listSizes.get(i);
    }

    long about(int a, int what) {
        if (!has(a) || what < 0 || what > 6) {
            return -1;
        }
        int[][] t = tables.get(a);
        int n = t.length;
        if (what == 0) {
            return n;
        }
        if (what == 1) {
            return worth(t);
        }
        if (what == 2) {
            boolean even = true;
            for (int i = 0; i < n; i++) {
                even &= t[i][i] % 2 == 0;
            }
            return even ? 1 : 0;
        }
        if (what == 6) {
            search(t, t, false);
            return spent ? -2 : found;
        }
        int least = 999;
        for (int i = 0; i < n; i++) {
            least = Math.min(least, t[i][i]);
        }
        if (!rowsUpTo(t, least)) {
            return -2;
        }
        long min = meeting(t, up.get(0), up.get(0));
        List<int[]> steps = new ArrayList<>();
        for (int[] x : up) {
            if (meeting(t, x, x) == min) {
                steps.add(x);
            }
        }
        return what == 3 ? min : what == 4 ? steps.size() : rank(steps, n) == n * (n + 1) / 2 ? 1 : 0;
    }

    /** Over the fractions, by exact whole numbers. */
    private static int rank(List<int[]> steps, int n) {
        int wide = n * n;
        List<BigInteger[]> lines = new ArrayList<>();
        for (int[] x : steps) {
            BigInteger[] line = new BigInteger[wide];
            for (int i = 0; i < n; i++) {
                for (int k = 0; k < n; k++) {
                    line[i * n + k] = big1((long) x[i] * x[k]);
                }
            }
            lines.add(line);
        }
        int rank = 0;
        for (int c = 0; c < wide; c++) {
            int at = -1;
            for (int r = rank; r < lines.size() && at < 0; r++) {
                at = lines.get(r)[c].signum() != 0 ? r : -1;
            }
            if (at < 0) {
                continue;
            }
            BigInteger[] lead = lines.get(at);
            lines.set(at, lines.get(rank));
            lines.set(rank, lead);
            for (int r = rank + 1; r < lines.size(); r++) {
                BigInteger[] line = lines.get(r);
                BigInteger own = line[c];
                for (int k = 0; k < wide; k++) {
                    line[k] = line[k].multiply(lead[c]).subtract(lead[k].multiply(own));
                }
            }
            rank++;
        }
        return rank;
    }

    /**
     * How many TRIES THE SEARCH from a to b takes to its end, were there no limit to them; all WAYS are wanted, or
     * the first one.
     */
    static int triesOf(int[][] a, int[][] b, boolean first) {
        Model m = new Model();
        m.mostTries = 10000000;
        m.search(a, b, first);
        return m.spent ? -2 : m.tries;
    }

    /** How many ROWS there are up to a SIZE, were there no limit to them. */
    static int countUpTo(int[][] t, int size) {
        Model m = new Model();
        m.mostRows = 10000000;
        return m.rowsUpTo(t, size) ? m.up.size() : -2;
    }

    /** What nearest() answers of a TABLE. */
    static int countNearest(int[][] t, int q, int[] p) {
        Model m = new Model();
        m.tables.add(t);
        return m.nearest(0, q, p);
    }

    private void search(int[][] a, int[][] b, boolean first) {
        tries = 0;
        found = 0;
        spent = false;
        foundWay = null;
        if (worth(a) != worth(b)) {
            return;
        }
        int greatest = 0;
        for (int i = 0; i < b.length; i++) {
            greatest = Math.max(greatest, b[i][i]);
        }
        if (!rowsUpTo(a, greatest)) {
            spent = true;
            return;
        }
        search(a, b, first, new int[b.length][], 0);
    }

    private void search(int[][] a, int[][] b, boolean first, int[][] chosen, int level) {
        if (level == b.length) {
            found++;
            foundWay = foundWay == null ? chosen.clone() : foundWay;
            return;
        }
        for (int[] x : up) {
            if (spent || first && found > 0) {
                return;
            }
            if (meeting(a, x, x) != b[level][level]) {
                continue;
            }
            if (tries == mostTries) {
                spent = true;
                return;
            }
            tries++;
            boolean good = true;
            for (int i = 0; i < level; i++) {
                good &= meeting(a, x, chosen[i]) == b[level][i];
            }
            if (good) {
                chosen[level] = x;
                search(a, b, first, chosen, level + 1);
            }
        }
    }

    int same(int a, int b) {
        if (!has(a) || !has(b) || tables.get(a).length != tables.get(b).length) {
            return -1;
        }
        search(tables.get(a), tables.get(b), true);
        if (spent) {
            return -2;
        }
        if (foundWay != null) {
            way = foundWay;
        }
        return found;
    }

    int way(int i, int k) {
        return of(way, i, k);
    }

    long wayWorth() {
        return way.length == 0 ? 0 : determinant(big(way)).longValueExact();
    }

    int reduce(int a) {
        if (!has(a) || tables.size() == 20) {
            return -1;
        }
        int[][] t = tables.get(a);
        int n = t.length;
        List<int[]> w = new ArrayList<>();
        for (int i = 0; i < n; i++) {
            w.add(new int[n]);
            w.get(i)[i] = 1;
        }
        while (shorten(t, w)) {
            continue;
        }
        w.sort((x, y) -> Long.compare(meeting(t, x, x), meeting(t, y, y)));
        BigInteger[][] out = new BigInteger[n][n];
        for (int i = 0; i < n; i++) {
            for (int k = 0; k < n; k++) {
                out[i][k] = big1(meeting(t, w.get(i), w.get(k)));
            }
        }
        int number = add(out);
        if (number >= 0) {
            way = w.toArray(new int[0][]);
        }
        return number;
    }

    private static boolean shorten(int[][] t, List<int[]> w) {
        for (int i = 0; i < w.size(); i++) {
            for (int k = 0; k < w.size(); k++) {
                if (i == k) {
                    continue;
                }
                long m = meeting(t, w.get(i), w.get(k));
                long s = meeting(t, w.get(k), w.get(k));
                long times = Math.abs(m) / s + (2 * (Math.abs(m) % s) > s ? 1 : 0);
                times = m < 0 ? -times : times;
                int[] less = w.get(i).clone();
                for (int j = 0; j < less.length; j++) {
                    less[j] -= (int) times * w.get(k)[j];
                }
                if (meeting(t, less, less) < meeting(t, w.get(i), w.get(i))) {
                    w.set(i, less);
                    return true;
                }
            }
        }
        return false;
    }

    int dual(int a) {
        if (!has(a) || tables.size() == 20) {
            return -1;
        }
        int[][] t = tables.get(a);
        BigInteger[][] out = new BigInteger[t.length][t.length];
        for (int i = 0; i < t.length; i++) {
            for (int k = 0; k < t.length; k++) {
                out[i][k] = co(t, i, k);
            }
        }
        return add(out);
    }

    int sum(int a, int b) {
        if (!has(a) || !has(b) || tables.size() == 20 || tables.get(a).length + tables.get(b).length > 4) {
            return -1;
        }
        int[][] s = tables.get(a);
        int[][] t = tables.get(b);
        int[][] out = new int[s.length + t.length][s.length + t.length];
        for (int i = 0; i < out.length; i++) {
            for (int k = 0; k < out.length; k++) {
                if (i < s.length && k < s.length) {
                    out[i][k] = s[i][k];
                } else if (i >= s.length && k >= s.length) {
                    out[i][k] = t[i - s.length][k - s.length];
                }
            }
        }
        return add(big(out));
    }

    int scale(int a, int by) {
        if (!has(a) || tables.size() == 20 || by < 1 || by > 999) {
            return -1;
        }
        BigInteger[][] out = big(tables.get(a));
        for (BigInteger[] line : out) {
            for (int k = 0; k < line.length; k++) {
                line[k] = line[k].multiply(big1(by));
            }
        }
        return add(out);
    }

    int within(int a) {
        if (!has(a) || tables.size() == 20 || tables.get(a).length != sheet.length || index() == 0) {
            return -1;
        }
        BigInteger[][] out = new BigInteger[sheet.length][sheet.length];
        for (int i = 0; i < sheet.length; i++) {
            for (int k = 0; k < sheet.length; k++) {
                out[i][k] = big1(meeting(tables.get(a), sheet[i], sheet[k]));
            }
        }
        return add(out);
    }

    long index() {
        return determinant(big(sheet)).abs().longValueExact();
    }

    int denser(int a, int b) {
        if (!has(a) || !has(b) || tables.get(a).length != tables.get(b).length) {
            return -3;
        }
        long first = about(a, 3);
        long second = about(b, 3);
        if (first == -2 || second == -2) {
            return -2;
        }
        int n = tables.get(a).length;
        return big1(first).pow(n).multiply(big1(worth(tables.get(b))))
            .compareTo(big1(second).pow(n).multiply(big1(worth(tables.get(a)))));
    }

    int nearest(int a, int q, int[] p) {
        if (!has(a) || q < 1 || q > 60) {
            return -1;
        }
        int[][] t = tables.get(a);
        for (int i = 0; i < t.length; i++) {
            if (p[i] < -6000 || p[i] > 6000) {
                return -1;
            }
        }
        int[][] box = box(t, q, p, sizeOfRounding(t, q, p));
        if (box == null) {
            return -2;
        }
        long best = Long.MAX_VALUE;
        List<int[]> near = new ArrayList<>();
        int[] x = firstOf(box);
        int[] z = new int[t.length];
        do {
            for (int i = 0; i < z.length; i++) {
                z[i] = q * x[i] - p[i];
            }
            long s = meeting(t, z, z);
            if (s < best) {
                best = s;
                near.clear();
            }
            if (s == best) {
                near.add(x.clone());
            }
        } while (next(x, box));
        if (near.size() > 100) {
            return -2;
        }
        list = near;
        listSizes = new ArrayList<>();
        for (int i = 0; i < near.size(); i++) {
            listSizes.add(best);
        }
        return list.size();
    }

    int told(int what) {
        return what == 0 ? tables.size() : what == 1 ? sheet.length : what == 2 ? list.size()
            : what == 3 ? way.length : -1;
    }
}
