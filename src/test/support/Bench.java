import java.util.function.IntBinaryOperator;

/**
 * A SphereBench whose calls are counted: the document speaks of 512 calls of an object, and what later ones answer
 * is free, so that no test may ask for more.
 */
final class Bench {
    static final int MOST_CALLS = 512;
    private static final int OUTSIDE = -100000;

    private final SphereBench x = new SphereBench();
    private int calls = 0;

    private SphereBench counted() {
        calls++;
        if (calls == MOST_CALLS + 1) {
            Checks.fault("the test itself makes more than " + MOST_CALLS + " calls of one object");
        }
        return x;
    }

    int left() {
        return MOST_CALLS - calls;
    }

    boolean sheet(int n) {
        return counted().sheet(n);
    }

    boolean cell(int i, int k, int v) {
        return counted().cell(i, k, v);
    }

    int cellOf(int i, int k) {
        return counted().cellOf(i, k);
    }

    int take() {
        return counted().take();
    }

    int table(int lattice, int i, int k) {
        return counted().table(lattice, i, k);
    }

    long about(int lattice, int what) {
        return counted().about(lattice, what);
    }

    int rows(int lattice, int size) {
        return counted().rows(lattice, size);
    }

    int theta(int lattice, int size) {
        return counted().theta(lattice, size);
    }

    int row(int i, int k) {
        return counted().row(i, k);
    }

    long size(int i) {
        return counted().size(i);
    }

    int reduce(int lattice) {
        return counted().reduce(lattice);
    }

    int same(int a, int b) {
        return counted().same(a, b);
    }

    int way(int i, int k) {
        return counted().way(i, k);
    }

    long wayWorth() {
        return counted().wayWorth();
    }

    int dual(int lattice) {
        return counted().dual(lattice);
    }

    int sum(int a, int b) {
        return counted().sum(a, b);
    }

    int scale(int lattice, int m) {
        return counted().scale(lattice, m);
    }

    int within(int lattice) {
        return counted().within(lattice);
    }

    long index() {
        return counted().index();
    }

    int denser(int a, int b) {
        return counted().denser(a, b);
    }

    int nearest(int lattice, int q, int... p) {
        return counted().nearest(lattice, q, at(p, 0), at(p, 1), at(p, 2), at(p, 3));
    }

    int told(int what) {
        return counted().told(what);
    }

    private static int at(int[] p, int i) {
        return i < p.length ? p[i] : 0;
    }

    /** Noughts need no call, as a new sheet has them. */
    void write(int[][] numbers) {
        sheet(numbers.length);
        for (int i = 0; i < numbers.length; i++) {
            for (int k = 0; k < numbers.length; k++) {
                if (numbers[i][k] != 0) {
                    cell(i, k, numbers[i][k]);
                }
            }
        }
    }

    int take(int[][] table) {
        write(table);
        return take();
    }

    /** Lattices of one way are added until there are as many. */
    void fillUpTo(int lattices) {
        write(new int[][] {{1}});
        for (int count = told(0); count < lattices; count++) {
            Checks.due("take() that fills the shelf", take(), count);
        }
    }

    /** All that can be read of the object, but for what follows from the tables. */
    String state() {
        int lattices = told(0);
        StringBuilder text = new StringBuilder("lattices ").append(lattices);
        text.append("; sheet ").append(told(1)).append(':').append(numbers(this::cellOf));
        for (int a = 0; a < lattices; a++) {
            int lattice = a;
            text.append("; table ").append(a).append(':').append(numbers((i, k) -> table(lattice, i, k)));
        }
        int rows = told(2);
        text.append("; list ").append(rows).append(':').append(numbers(this::row)).append(" of");
        for (int i = 0; i < rows; i++) {
            text.append(' ').append(size(i));
        }
        text.append("; way ").append(told(3)).append(':').append(numbers(this::way));
        return text.append(" worth ").append(wayWorth()).append("; index ").append(index()).toString();
    }

    private static String numbers(IntBinaryOperator at) {
        StringBuilder text = new StringBuilder();
        int first = at.applyAsInt(0, 0);
        for (int i = 0; first != OUTSIDE; i++) {
            int number = first;
            for (int k = 0; number != OUTSIDE; k++) {
                text.append(' ').append(number);
                number = at.applyAsInt(i, k + 1);
            }
            first = at.applyAsInt(i + 1, 0);
        }
        return text.toString();
    }
}
