/** Lattices of up to four ways, told by whole tables: see README.md and the document's promises 1 to 23. */
public final class SphereBench {
    public static final int NONE = -1;

    private static final int SPENT = -2;
    private static final int UNLIKE = -3;
    private static final int OUTSIDE = -100000;
    private static final int LINE_FAULT = -10;
    private static final int CORNER_FAULT = -20;

    private static final int MOST_WAYS = 4;
    private static final int MOST_LATTICES = 20;
    private static final int MOST_NUMBER = 999;
    private static final int MOST_SIZE = 1000000;
    private static final int MOST_IN_BOX = 300000;
    private static final int MOST_ROWS = 1000;
    private static final int MOST_NEAREST = 100;
    private static final int MOST_TRIES = 200000;
    private static final int MOST_PARTS = 60;
    private static final int MOST_PLACE = 6000;

    private static final int FACTS = 7;
    private static final int FACT_WAYS = 0;
    private static final int FACT_WORTH = 1;
    private static final int FACT_EVEN = 2;
    private static final int FACT_MIN = 3;
    private static final int FACT_KISS = 4;
    private static final int FACT_PERFECT = 5;
    private static final int FACT_TURNS = 6;
    /** Stands for a fact that nobody has asked for yet; no fact has this value. */
    private static final long UNKNOWN = -9;

    private final Grid page = new Grid();
    private final Grid keptWay = new Grid();
    private final Grid trialWay = new Grid();
    private final Lattice[] shelf = new Lattice[MOST_LATTICES];
    private final Sweep sweep = new Sweep();
    private final Hunt hunt = new Hunt();
    private final Rank rank = new Rank();
    private int lattices = 0;
    private Book list = new Book();
    private Book spare = new Book();

    public SphereBench() {
        for (int i = 0; i < shelf.length; i++) {
            shelf[i] = new Lattice();
        }
        page.open(1);
        page.put(0, 0, 1);
    }

    public boolean sheet(int n) {
        if (n < 1 || n > MOST_WAYS) {
            return false;
        }
        page.open(n);
        return true;
    }

    public boolean cell(int i, int k, int v) {
        if (!page.has(i, k) || v < -MOST_NUMBER || v > MOST_NUMBER) {
            return false;
        }
        page.put(i, k, v);
        return true;
    }

    public int cellOf(int i, int k) {
        return page.has(i, k) ? (int) page.at(i, k) : OUTSIDE;
    }

    public int take() {
        Lattice fresh = freeLattice();
        if (fresh == null) {
            return NONE;
        }
        int unlike = page.firstUnlikeLine();
        if (unlike >= 0) {
            return LINE_FAULT - unlike;
        }
        int flat = page.firstFlatCorner();
        if (flat > 0) {
            return CORNER_FAULT - flat;
        }
        fresh.form.copy(page);
        return keepIfSmall(fresh);
    }

    public int table(int lattice, int i, int k) {
        Lattice a = latticeAt(lattice);
        return a != null && a.form.has(i, k) ? (int) a.form.at(i, k) : OUTSIDE;
    }

    public long about(int lattice, int what) {
        Lattice a = latticeAt(lattice);
        if (a == null || what < 0 || what >= a.facts.length) {
            return NONE;
        }
        return factOf(a, what);
    }

    public int rows(int lattice, int size) {
        Lattice a = latticeAt(lattice);
        if (a == null || size < 1 || size > MOST_SIZE) {
            return NONE;
        }
        return showSpare(sweep.gatherUpTo(a, size, spare));
    }

    public int theta(int lattice, int size) {
        Lattice a = latticeAt(lattice);
        if (a == null || size < 1 || size > MOST_SIZE) {
            return NONE;
        }
        if (sweep.gatherUpTo(a, size, spare) < 0) {
            return SPENT;
        }
        return spare.firstAbove(size) - spare.firstAbove(size - 1L);
    }

    public int row(int i, int k) {
        return list.has(i, k) ? list.numberAt(i, k) : OUTSIDE;
    }

    public long size(int i) {
        return list.has(i, 0) ? list.sizeAt(i) : NONE;
    }

    public int reduce(int lattice) {
        Lattice a = latticeAt(lattice);
        Lattice fresh = freeLattice();
        if (a == null || fresh == null) {
            return NONE;
        }
        fresh.form.copy(a.form);
        trialWay.open(a.ways());
        for (int i = 0; i < a.ways(); i++) {
            trialWay.put(i, i, 1);
        }
        shortenAll(fresh.form, trialWay);
        sortBySizes(fresh.form, trialWay);
        int number = keepIfSmall(fresh);
        if (number >= 0) {
            keptWay.copy(trialWay);
        }
        return number;
    }

    public int same(int a, int b) {
        Lattice from = latticeAt(a);
        Lattice to = latticeAt(b);
        if (from == null || to == null || from.ways() != to.ways()) {
            return NONE;
        }
        long found = countWays(from, to, true);
        if (found > 0) {
            hunt.tellWay(keptWay);
        }
        return (int) found;
    }

    public int way(int i, int k) {
        return keptWay.has(i, k) ? (int) keptWay.at(i, k) : OUTSIDE;
    }

    public long wayWorth() {
        return keptWay.lines() == 0 ? 0 : keptWay.determinant();
    }

    public int dual(int lattice) {
        Lattice a = latticeAt(lattice);
        Lattice fresh = freeLattice();
        if (a == null || fresh == null) {
            return NONE;
        }
        fresh.form.copy(a.co);
        return keepIfSmall(fresh);
    }

    public int sum(int a, int b) {
        Lattice first = latticeAt(a);
        Lattice second = latticeAt(b);
        Lattice fresh = freeLattice();
        if (first == null || second == null || fresh == null || first.ways() + second.ways() > MOST_WAYS) {
            return NONE;
        }
        fresh.form.open(first.ways() + second.ways());
        fresh.form.lay(first.form, 0);
        fresh.form.lay(second.form, first.ways());
        return keepIfSmall(fresh);
    }

    public int scale(int lattice, int m) {
        Lattice a = latticeAt(lattice);
        Lattice fresh = freeLattice();
        if (a == null || fresh == null || m < 1 || m > MOST_NUMBER) {
            return NONE;
        }
        fresh.form.copy(a.form);
        fresh.form.multiply(m);
        return keepIfSmall(fresh);
    }

    public int within(int lattice) {
        Lattice a = latticeAt(lattice);
        Lattice fresh = freeLattice();
        if (a == null || fresh == null || page.lines() != a.ways() || page.determinant() == 0) {
            return NONE;
        }
        fresh.form.openMeetings(a.form, page);
        return keepIfSmall(fresh);
    }

    public long index() {
        return Math.abs(page.determinant());
    }

    public int denser(int a, int b) {
        Lattice first = latticeAt(a);
        Lattice second = latticeAt(b);
        if (first == null || second == null || first.ways() != second.ways()) {
            return UNLIKE;
        }
        long firstMin = factOf(first, FACT_MIN);
        long secondMin = factOf(second, FACT_MIN);
        if (firstMin < 0 || secondMin < 0) {
            return SPENT;
        }
        int n = first.ways();
        return compareFractions(power(firstMin, n), first.worth, power(secondMin, n), second.worth);
    }

    public int nearest(int lattice, int q, int p0, int p1, int p2, int p3) {
        Lattice a = latticeAt(lattice);
        if (a == null || q < 1 || q > MOST_PARTS) {
            return NONE;
        }
        sweep.aimAt(p0, p1, p2, p3);
        if (!sweep.aimIsNear(a.ways())) {
            return NONE;
        }
        return showSpare(sweep.gatherNearest(a, q, spare));
    }

    public int told(int what) {
        switch (what) {
            case 0:
                return lattices;
            case 1:
                return page.lines();
            case 2:
                return list.count();
            case 3:
                return keptWay.lines();
            default:
                return NONE;
        }
    }

    private Lattice latticeAt(int number) {
        return number >= 0 && number < lattices && number < shelf.length ? shelf[number] : null;
    }

    /** The next lattice is made in its own place on the shelf; until it is counted nobody sees it. */
    private Lattice freeLattice() {
        return lattices >= 0 && lattices < shelf.length ? shelf[lattices] : null;
    }

    private int keepIfSmall(Lattice fresh) {
        if (!fresh.form.isSmall()) {
            return NONE;
        }
        fresh.settle();
        lattices++;
        return lattices - 1;
    }

    /** Makes the spare book the LIST if it was filled; else the LIST stays. */
    private int showSpare(int gathered) {
        if (gathered >= 0) {
            Book shown = spare;
            spare = list;
            list = shown;
        }
        return gathered;
    }

    /** A lattice never changes once it is kept, so each fact is worked out once. */
    private long factOf(Lattice a, int what) {
        if (a.facts[what] == UNKNOWN) {
            if (what == FACT_TURNS) {
                a.facts[FACT_TURNS] = countWays(a, a, false);
            } else {
                learnSteps(a);
            }
        }
        return a.facts[what];
    }

    private void learnSteps(Lattice a) {
        if (sweep.gatherUpTo(a, a.form.leastAcross(), spare) < 1) {
            a.setStepFacts(SPENT, SPENT, SPENT);
            return;
        }
        long min = spare.sizeAt(0);
        int kiss = spare.firstAbove(min);
        a.setStepFacts(min, kiss, rank.isFull(spare, kiss) ? 1 : 0);
    }

    private long countWays(Lattice from, Lattice to, boolean firstOnly) {
        if (from.worth != to.worth) {
            return 0;
        }
        if (sweep.gatherUpTo(from, to.form.greatestAcross(), spare) < 0) {
            return SPENT;
        }
        return hunt.count(from.form, to.form, spare, firstOnly);
    }

    /** Each turn makes a ROW shorter by at least 1, and at first all are at most 4 * 999 together. */
    private static void shortenAll(Grid form, Grid way) {
        boolean shorter = true;
        for (int turn = 0; shorter && turn <= MOST_WAYS * MOST_NUMBER; turn++) {
            shorter = shortenFirst(form, way);
        }
    }

    private static boolean shortenFirst(Grid form, Grid way) {
        for (int i = 0; i < form.lines(); i++) {
            for (int k = 0; k < form.lines(); k++) {
                long t = i == k ? 0 : nearestTowardsZero(form.at(i, k), form.at(k, k));
                long change = t * t * form.at(k, k) - 2 * t * form.at(i, k);
                if (change < 0) {
                    way.takeLineAway(i, k, t);
                    form.takeLineAway(i, k, t);
                    form.takePlaceAway(i, k, t);
                    return true;
                }
            }
        }
        return false;
    }

    private static long nearestTowardsZero(long above, long below) {
        if (below <= 0) {
            return 0;
        }
        long t = (2 * Math.abs(above) + below - 1) / (2 * below);
        return above < 0 ? -t : t;
    }

    /** Neighbours alone change places, and never like ones, so like ROWS stay as they stand. */
    private static void sortBySizes(Grid form, Grid way) {
        for (int round = 1; round < form.lines(); round++) {
            for (int i = 0; i + 1 < form.lines(); i++) {
                if (form.at(i, i) > form.at(i + 1, i + 1)) {
                    way.swapLines(i, i + 1);
                    form.swapLines(i, i + 1);
                    form.swapPlaces(i, i + 1);
                }
            }
        }
    }

    private static long power(long base, int exponent) {
        long product = 1;
        for (int i = 0; i < exponent; i++) {
            product *= base;
        }
        return product;
    }

    /**
     * Compares a / b with c / d, none below 0 and b, d above 0. The cross products may be beyond a long,
     * so whole parts are compared first and then the rests turned over, as in Euclid's division.
     */
    private static int compareFractions(long a, long b, long c, long d) {
        int sign = 1;
        for (int step = 0; step < 200 && b > 0 && d > 0; step++) {
            if (a / b != c / d) {
                return a / b > c / d ? sign : -sign;
            }
            long firstRest = a % b;
            long secondRest = c % d;
            if (firstRest == 0 || secondRest == 0) {
                return sign * Long.compare(firstRest, secondRest);
            }
            a = b;
            b = firstRest;
            c = d;
            d = secondRest;
            sign = -sign;
        }
        return 0;
    }

    /** No lines or up to four lines of as many numbers; a number outside reads 0 and is never set. */
    private static final class Grid {
        private int lines = 0;
        private final long[] numbers = new long[MOST_WAYS * MOST_WAYS];

        int lines() {
            return lines;
        }

        void open(int n) {
            lines = Math.max(0, Math.min(n, MOST_WAYS));
            for (int i = 0; i < numbers.length; i++) {
                numbers[i] = 0;
            }
        }

        boolean has(int i, int k) {
            return i >= 0 && i < lines && k >= 0 && k < lines;
        }

        long at(int i, int k) {
            return has(i, k) ? numbers[i * MOST_WAYS + k] : 0;
        }

        void put(int i, int k, long v) {
            if (has(i, k)) {
                numbers[i * MOST_WAYS + k] = v;
            }
        }

        void copy(Grid other) {
            lines = other.lines;
            System.arraycopy(other.numbers, 0, numbers, 0, numbers.length);
        }

        /** Another grid's numbers, with its first one at line and place corner. */
        void lay(Grid other, int corner) {
            for (int i = 0; i < other.lines; i++) {
                for (int k = 0; k < other.lines; k++) {
                    put(corner + i, corner + k, other.at(i, k));
                }
            }
        }

        void multiply(long m) {
            for (int i = 0; i < numbers.length; i++) {
                numbers[i] *= m;
            }
        }

        /** Becomes the MEETINGS by a form of the lines of a grid. */
        void openMeetings(Grid form, Grid rows) {
            open(rows.lines);
            for (int i = 0; i < lines; i++) {
                for (int k = 0; k < lines; k++) {
                    put(i, k, form.meeting(rows, i, k));
                }
            }
        }

        private long meeting(Grid rows, int first, int second) {
            long total = 0;
            for (int i = 0; i < lines; i++) {
                for (int k = 0; k < lines; k++) {
                    total += rows.at(first, i) * at(i, k) * rows.at(second, k);
                }
            }
            return total;
        }

        /** Line i by a ROW; read without at(), as the sweep and the hunt live on it. */
        long lineBy(int i, long[] x) {
            long total = 0;
            if (i >= 0 && i < lines) {
                for (int k = 0; k < lines && k < x.length; k++) {
                    total += numbers[i * MOST_WAYS + k] * x[k];
                }
            }
            return total;
        }

        void takeLineAway(int i, int from, long t) {
            for (int k = 0; k < lines; k++) {
                put(i, k, at(i, k) - t * at(from, k));
            }
        }

        void takePlaceAway(int k, int from, long t) {
            for (int i = 0; i < lines; i++) {
                put(i, k, at(i, k) - t * at(i, from));
            }
        }

        void swapLines(int a, int b) {
            for (int k = 0; k < lines; k++) {
                long held = at(a, k);
                put(a, k, at(b, k));
                put(b, k, held);
            }
        }

        void swapPlaces(int a, int b) {
            for (int i = 0; i < lines; i++) {
                long held = at(i, a);
                put(i, a, at(i, b));
                put(i, b, held);
            }
        }

        boolean isSmall() {
            for (int i = 0; i < numbers.length; i++) {
                if (numbers[i] < -MOST_NUMBER || numbers[i] > MOST_NUMBER) {
                    return false;
                }
            }
            return true;
        }

        boolean isEvenAcross() {
            for (int i = 0; i < lines; i++) {
                if (at(i, i) % 2 != 0) {
                    return false;
                }
            }
            return true;
        }

        int leastAcross() {
            long least = at(0, 0);
            for (int i = 1; i < lines; i++) {
                least = Math.min(least, at(i, i));
            }
            return (int) least;
        }

        int greatestAcross() {
            long greatest = at(0, 0);
            for (int i = 1; i < lines; i++) {
                greatest = Math.max(greatest, at(i, i));
            }
            return (int) greatest;
        }

        /** The first line that isn't alike across, -1 without one. */
        int firstUnlikeLine() {
            for (int i = 0; i < lines; i++) {
                for (int k = 0; k < lines; k++) {
                    if (at(i, k) != at(k, i)) {
                        return i;
                    }
                }
            }
            return -1;
        }

        /** The first k whose first k lines' first k numbers have no determinant above 0; 0 without one. */
        int firstFlatCorner() {
            for (int k = 1; k <= lines; k++) {
                if (expand(0, k, -1, (1 << k) - 1) <= 0) {
                    return k;
                }
            }
            return 0;
        }

        long determinant() {
            return expand(0, lines, -1, (1 << lines) - 1);
        }

        long cofactor(int i, int k) {
            long minor = expand(0, lines, i, ((1 << lines) - 1) & ~(1 << k));
            return (i + k) % 2 == 0 ? minor : -minor;
        }

        /**
         * The determinant of the lines from one to another, but for a struck one, over the places of a mask.
         * Only sums and products: where a long wraps around on the way, an end that fits is right all the same.
         */
        private long expand(int from, int until, int struck, int places) {
            int line = from == struck ? from + 1 : from;
            if (line >= until || line >= MOST_WAYS) {
                return 1;
            }
            long total = 0;
            long sign = 1;
            for (int k = 0; k < lines; k++) {
                if ((places & (1 << k)) != 0) {
                    long number = at(line, k);
                    if (number != 0) {
                        total += sign * number * expand(line + 1, until, struck, places & ~(1 << k));
                    }
                    sign = -sign;
                }
            }
            return total;
        }
    }

    /** A TABLE with what follows from it. */
    private static final class Lattice {
        final Grid form = new Grid();
        final Grid co = new Grid();
        final long[] facts = new long[FACTS];
        long worth = 0;

        int ways() {
            return form.lines();
        }

        /** To be called once its form stands. */
        void settle() {
            worth = form.determinant();
            co.open(form.lines());
            for (int i = 0; i < form.lines(); i++) {
                for (int k = 0; k < form.lines(); k++) {
                    co.put(i, k, form.cofactor(k, i));
                }
            }
            facts[FACT_WAYS] = form.lines();
            facts[FACT_WORTH] = worth;
            facts[FACT_EVEN] = form.isEvenAcross() ? 1 : 0;
            facts[FACT_TURNS] = UNKNOWN;
            setStepFacts(UNKNOWN, UNKNOWN, UNKNOWN);
        }

        void setStepFacts(long min, long kiss, long perfect) {
            facts[FACT_MIN] = min;
            facts[FACT_KISS] = kiss;
            facts[FACT_PERFECT] = perfect;
        }
    }

    /**
     * ROWS of a box, each one long: its SIZE above its place in the box. As the places are counted with the last
     * number the fastest, the order of the longs is that of SIZES and then of numbers.
     */
    private static final class Book {
        private static final int PLACE_BITS = 19;
        private static final long PLACE_MASK = (1L << PLACE_BITS) - 1;

        private int ways = 0;
        private int count = 0;
        private final long[] low = new long[MOST_WAYS];
        private final long[] span = new long[MOST_WAYS];
        private final long[] keys = new long[MOST_ROWS];

        int ways() {
            return ways;
        }

        int count() {
            return count;
        }

        boolean has(int i, int k) {
            return i >= 0 && i < count && k >= 0 && k < ways;
        }

        void open(int n) {
            ways = Math.max(0, Math.min(n, MOST_WAYS));
            count = 0;
        }

        void forgetRows() {
            count = 0;
        }

        void setRange(int k, long lowest, long highest) {
            if (k >= 0 && k < ways) {
                low[k] = lowest;
                span[k] = Math.max(0, highest - lowest + 1);
            }
        }

        long lowest(int k) {
            return k >= 0 && k < ways ? low[k] : 0;
        }

        long span(int k) {
            return k >= 0 && k < ways ? span[k] : 0;
        }

        /** How many ROWS the box has, or some number above the most that it may have. */
        long boxCount() {
            long product = 1;
            for (int k = 0; k < ways && product <= MOST_IN_BOX; k++) {
                product *= span[k];
            }
            return product;
        }

        int widest() {
            int widest = 0;
            for (int k = 1; k < ways; k++) {
                if (span[k] > span[widest]) {
                    widest = k;
                }
            }
            return widest;
        }

        /** False, and nothing noted, beyond the most ROWS. */
        boolean note(long size, long[] x) {
            if (count < 0 || count >= keys.length) {
                return false;
            }
            long place = 0;
            for (int k = 0; k < ways && k < x.length; k++) {
                place = place * span[k] + x[k] - low[k];
            }
            keys[count] = (size << PLACE_BITS) + place;
            count++;
            return true;
        }

        long sizeAt(int i) {
            return i >= 0 && i < count ? keys[i] >> PLACE_BITS : 0;
        }

        int numberAt(int i, int k) {
            if (!has(i, k)) {
                return 0;
            }
            long place = keys[i] & PLACE_MASK;
            for (int j = ways - 1; j > k; j--) {
                place = span[j] > 0 ? place / span[j] : 0;
            }
            return (int) (low[k] + (span[k] > 0 ? place % span[k] : 0));
        }

        /** The first ROW whose SIZE is above one, of sorted ROWS. */
        int firstAbove(long size) {
            int from = 0;
            int until = count;
            for (int step = 0; step < 32 && from < until; step++) {
                int middle = (from + until) / 2;
                if (sizeAt(middle) > size) {
                    until = middle;
                } else {
                    from = middle + 1;
                }
            }
            return from;
        }

        void sort() {
            for (int i = count / 2 - 1; i >= 0; i--) {
                sink(i, count);
            }
            for (int last = count - 1; last > 0; last--) {
                long held = keys[0];
                keys[0] = keys[last];
                keys[last] = held;
                sink(0, last);
            }
        }

        /** Lets a key fall in the heap that ends before a place; its depth doubles the place each time. */
        private void sink(int start, int until) {
            int i = start;
            for (int step = 0; step < 32 && 2 * i + 1 < until; step++) {
                int child = 2 * i + 1;
                if (child + 1 < until && keys[child + 1] > keys[child]) {
                    child++;
                }
                if (keys[child] <= keys[i]) {
                    return;
                }
                long held = keys[child];
                keys[child] = keys[i];
                keys[i] = held;
                i = child;
            }
        }
    }

    /**
     * Goes through a box for the ROWS x with q * x - p of a bounded SIZE (q is 1 and p noughts for ROWS up to
     * a SIZE). All places but the widest one are gone through number by number; there, the numbers that can
     * count are worked out from the others.
     */
    private static final class Sweep {
        private int q = 1;
        private int free = 0;
        private long square = 1;
        private long slope = 0;
        private long rest = 0;
        private long best = 0;
        private boolean overfull = false;
        private final Grid form = new Grid();
        private final long[] p = new long[MOST_WAYS];
        private final long[] x = new long[MOST_WAYS];
        private final long[] z = new long[MOST_WAYS];

        void aimAt(int p0, int p1, int p2, int p3) {
            p[0] = p0;
            p[1] = p1;
            p[2] = p2;
            p[3] = p3;
        }

        boolean aimIsNear(int ways) {
            for (int i = 0; i < ways && i < MOST_WAYS; i++) {
                if (p[i] < -MOST_PLACE || p[i] > MOST_PLACE) {
                    return false;
                }
            }
            return true;
        }

        /** How many ROWS there are up to a SIZE, noted by their order; or SPENT. */
        int gatherUpTo(Lattice a, int size, Book into) {
            aimAt(0, 0, 0, 0);
            if (!begin(a, 1, size, into)) {
                return SPENT;
            }
            long prefixes = floorOf(into.boxCount(), into.span(free));
            for (long step = 0; step < prefixes; step++) {
                prepare();
                if (!noteUpTo(size, into)) {
                    return SPENT;
                }
                advance(into);
            }
            into.sort();
            return into.count();
        }

        /** How many ROWS are NEAREST to the aim by q, noted by their order; or SPENT. */
        int gatherNearest(Lattice a, int parts, Book into) {
            best = sizeOfRounding(a, parts);
            overfull = false;
            if (!begin(a, parts, best, into)) {
                return SPENT;
            }
            long prefixes = floorOf(into.boxCount(), into.span(free));
            for (long step = 0; step < prefixes; step++) {
                prepare();
                long below = floorOf(p[free] * square - slope, q * square);
                offer(below, into);
                offer(below + 1, into);
                advance(into);
            }
            if (overfull) {
                return SPENT;
            }
            into.sort();
            return into.count();
        }

        private long sizeOfRounding(Lattice a, long parts) {
            for (int i = 0; i < a.ways() && i < MOST_WAYS; i++) {
                z[i] = parts * floorOf(2 * p[i] + parts, 2 * parts) - p[i];
            }
            long total = 0;
            for (int i = 0; i < a.ways() && i < MOST_WAYS; i++) {
                total += z[i] * a.form.lineBy(i, z);
            }
            return total;
        }

        /** Lays the box and goes to its first ROW; false if the box has too many. */
        private boolean begin(Lattice a, int parts, long bound, Book into) {
            form.copy(a.form);
            q = parts;
            into.open(a.ways());
            for (int i = 0; i < a.ways() && i < MOST_WAYS; i++) {
                long reach = rootOf(floorOf(bound * a.co.at(i, i), a.worth));
                into.setRange(i, ceilingOf(p[i] - reach, q), floorOf(p[i] + reach, q));
            }
            if (into.boxCount() > MOST_IN_BOX) {
                return false;
            }
            free = into.widest();
            square = form.at(free, free);
            for (int i = 0; i < a.ways(); i++) {
                setNumber(i, into.lowest(i));
            }
            return true;
        }

        private void setNumber(int i, long number) {
            if (i >= 0 && i < MOST_WAYS) {
                x[i] = number;
                z[i] = i == free ? 0 : q * number - p[i];
            }
        }

        private void advance(Book box) {
            for (int i = Math.min(form.lines(), MOST_WAYS) - 1; i >= 0; i--) {
                if (i != free) {
                    if (x[i] + 1 < box.lowest(i) + box.span(i)) {
                        setNumber(i, x[i] + 1);
                        return;
                    }
                    setNumber(i, box.lowest(i));
                }
            }
        }

        /** With y for the free place's q * x - p, the SIZE is square * y * y + 2 * slope * y + rest. */
        private void prepare() {
            slope = form.lineBy(free, z);
            rest = 0;
            for (int i = 0; i < form.lines() && i < MOST_WAYS; i++) {
                if (i != free) {
                    rest += z[i] * form.lineBy(i, z);
                }
            }
        }

        private long sizeFor(long y) {
            return (square * y + 2 * slope) * y + rest;
        }

        /** Notes the ROWS up to a SIZE that the prefix has; false if there are too many. */
        private boolean noteUpTo(long size, Book into) {
            long inside = slope * slope - square * (rest - size);
            if (inside < 0) {
                return true;
            }
            long root = rootOf(inside);
            long last = floorOf(root - slope, square);
            for (long y = ceilingOf(-root - slope, square); y <= last; y++) {
                long found = sizeFor(y);
                if (found > 0) {
                    x[free] = y;
                    if (!into.note(found, x)) {
                        return false;
                    }
                }
            }
            return true;
        }

        /** Whatever lies outside the box is longer than its bound, so it never counts here. */
        private void offer(long number, Book into) {
            long found = sizeFor(q * number - p[free]);
            if (found > best) {
                return;
            }
            if (found < best) {
                best = found;
                overfull = false;
                into.forgetRows();
            }
            x[free] = number;
            if (into.count() >= MOST_NEAREST || !into.note(found, x)) {
                overfull = true;
            }
        }

        /** The greatest whole number whose square is not above v. */
        private static long rootOf(long v) {
            if (v <= 0) {
                return 0;
            }
            long guess = 1;
            for (int i = 0; i < 31 && guess * guess < v; i++) {
                guess *= 2;
            }
            for (int i = 0; i < 64 && guess > 0; i++) {
                long next = (guess + v / guess) / 2;
                if (next >= guess) {
                    break;
                }
                guess = next;
            }
            return guess;
        }

        private static long floorOf(long above, long below) {
            return below > 0 ? Math.floorDiv(above, below) : 0;
        }

        private static long ceilingOf(long above, long below) {
            return -floorOf(-above, below);
        }
    }

    /** THE SEARCH for WAYS. */
    private static final class Hunt {
        private int ways = 0;
        private int tries = 0;
        private long found = 0;
        private boolean firstOnly = false;
        private boolean spent = false;
        private final Grid form = new Grid();
        private final Grid wanted = new Grid();
        private final int[] begin = new int[MOST_WAYS];
        private final int[] end = new int[MOST_WAYS];
        private final int[] chosen = new int[MOST_WAYS];
        private final int[] numbers = new int[MOST_ROWS * MOST_WAYS];
        private final long[] held = new long[MOST_WAYS];
        /** For each chosen ROW the form by it, so that a MEETING with it is one sum of products. */
        private final long[] pulls = new long[MOST_WAYS * MOST_WAYS];

        /** How many WAYS there are among sorted ROWS (1 if the first one is enough), or SPENT. */
        long count(Grid from, Grid to, Book sorted, boolean oneIsEnough) {
            form.copy(from);
            wanted.copy(to);
            ways = to.lines();
            tries = 0;
            found = 0;
            firstOnly = oneIsEnough;
            spent = false;
            for (int i = 0; i < ways && i < MOST_WAYS; i++) {
                begin[i] = sorted.firstAbove(to.at(i, i) - 1);
                end[i] = sorted.firstAbove(to.at(i, i));
            }
            for (int r = 0; r < sorted.count() && r < MOST_ROWS; r++) {
                for (int k = 0; k < MOST_WAYS; k++) {
                    numbers[r * MOST_WAYS + k] = sorted.numberAt(r, k);
                }
            }
            choose(0);
            return spent ? SPENT : found;
        }

        /** The ROWS that were chosen when the first WAY was found. */
        void tellWay(Grid into) {
            into.open(ways);
            for (int i = 0; i < ways && i < MOST_WAYS; i++) {
                for (int k = 0; k < ways; k++) {
                    into.put(i, k, numberOf(chosen[i], k));
                }
            }
        }

        private int numberOf(int r, int k) {
            return r >= 0 && r < MOST_ROWS && k >= 0 && k < MOST_WAYS ? numbers[r * MOST_WAYS + k] : 0;
        }

        /** Chooses the ROW of a level and all after it; true if the search is at its end. */
        private boolean choose(int level) {
            if (level >= ways || level >= MOST_WAYS) {
                found++;
                return firstOnly;
            }
            for (int r = begin[level]; r < end[level]; r++) {
                if (tries >= MOST_TRIES) {
                    spent = true;
                    return true;
                }
                tries++;
                if (meetsAsWanted(r, level)) {
                    hold(r, level);
                    if (choose(level + 1)) {
                        return true;
                    }
                }
            }
            return false;
        }

        private boolean meetsAsWanted(int r, int level) {
            if (r < 0 || r >= MOST_ROWS) {
                return false;
            }
            for (int i = 0; i < level && i < MOST_WAYS; i++) {
                long meeting = 0;
                for (int k = 0; k < MOST_WAYS; k++) {
                    meeting += pulls[i * MOST_WAYS + k] * numbers[r * MOST_WAYS + k];
                }
                if (meeting != wanted.at(level, i)) {
                    return false;
                }
            }
            return true;
        }

        private void hold(int r, int level) {
            chosen[level] = r;
            for (int k = 0; k < MOST_WAYS; k++) {
                held[k] = numberOf(r, k);
            }
            for (int k = 0; k < MOST_WAYS; k++) {
                pulls[level * MOST_WAYS + k] = form.lineBy(k, held);
            }
        }
    }

    /**
     * Whether the tables of STEPS have as many among them as can be of which none is made of the others.
     * Counting by a prime is exact here: for the shortest ROWS of at most four ways there is a whole turn of
     * the places, without effect on the count, after which their numbers are -1, 0 or 1 (for the densest
     * lattice of four ways, up to powers of 2), so that no determinant of such tables is as great as the prime.
     */
    private static final class Rank {
        private static final long PRIME = 2147483647L;
        private static final int MOST_PAIRS = MOST_WAYS * (MOST_WAYS + 1) / 2;

        private int pairs = 0;
        private int kept = 0;
        private final long[] fresh = new long[MOST_PAIRS];
        private final long[] tables = new long[MOST_PAIRS * MOST_PAIRS];
        private final int[] leads = new int[MOST_PAIRS];

        /** For the first ROWS of a book. */
        boolean isFull(Book rows, int steps) {
            int n = rows.ways();
            pairs = n * (n + 1) / 2;
            kept = 0;
            for (int i = 0; i < steps && kept < pairs; i++) {
                setFresh(rows, i, n);
                keepFreshIfNew();
            }
            return kept == pairs;
        }

        private void setFresh(Book rows, int step, int n) {
            int pair = 0;
            for (int i = 0; i < n; i++) {
                for (int k = i; k < n && pair < fresh.length; k++) {
                    long product = (long) rows.numberAt(step, i) * rows.numberAt(step, k);
                    fresh[pair] = Math.floorMod(product, PRIME);
                    pair++;
                }
            }
        }

        private void keepFreshIfNew() {
            for (int t = 0; t < kept && t < MOST_PAIRS; t++) {
                strikeOut(t, leads[t]);
            }
            for (int pair = 0; pair < pairs && kept < MOST_PAIRS; pair++) {
                if (fresh[pair] != 0) {
                    leads[kept] = pair;
                    System.arraycopy(fresh, 0, tables, kept * MOST_PAIRS, MOST_PAIRS);
                    kept++;
                    return;
                }
            }
        }

        private void strikeOut(int t, int lead) {
            long own = fresh[lead];
            long other = tables[t * MOST_PAIRS + lead];
            if (own != 0) {
                for (int pair = 0; pair < pairs; pair++) {
                    long mixed = fresh[pair] * other - tables[t * MOST_PAIRS + pair] * own;
                    fresh[pair] = Math.floorMod(mixed, PRIME);
                }
            }
        }
    }
}
