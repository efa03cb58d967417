/** Tables that several tests use, and benches with them. */
final class Tables {
    static final int[][] ONE = {{1}};
    static final int[][] SQUARE = {{1, 0}, {0, 1}};
    static final int[][] HEXAGON = {{2, -1}, {-1, 2}};
    static final int[][] CUBE = {{1, 0, 0}, {0, 1, 0}, {0, 0, 1}};
    static final int[][] CUBE4 = {{1, 0, 0, 0}, {0, 1, 0, 0}, {0, 0, 1, 0}, {0, 0, 0, 1}};
    static final int[][] D4 = {{2, -1, 0, 0}, {-1, 2, -1, -1}, {0, -1, 2, 0}, {0, -1, 0, 2}};
    /** One of 1, 2, 3 and 4 ways. */
    static final int[][][] OF_WAYS = {ONE, SQUARE, CUBE, CUBE4};
    static final int[][] GREATEST = {{999, 0, 0, 0}, {0, 999, 0, 0}, {0, 0, 999, 0}, {0, 0, 0, 999}};
    /** The squares' lattice by long lines: boxes are wide though ROWS are few; by the longer ones MIN is SPENT. */
    static final int[][] BENT = {{89, 144}, {144, 233}};
    static final int[][] MORE_BENT = {{233, 377}, {377, 610}};
    /** ROWS up to the least number across: 1,000 and 1,002; in boxes of 299,997 and 300,001. */
    static final int[][] ROWS_1000 = {{155, 126, 125}, {126, 105, 101}, {125, 101, 101}};
    static final int[][] ROWS_1002 = {{101, -151, -115}, {-151, 227, 173}, {-115, 173, 132}};
    static final int[][] BOX_299997 = {{138, -55, -20}, {-55, 66, 28}, {-20, 28, 12}};
    static final int[][] BOX_300001 = {{62, -115, -13, -102}, {-115, 324, 25, 166}, {-13, 25, 3, 24},
        {-102, 166, 24, 202}};

    private Tables() {
    }

    /** Four lattices, a LIST of two ROWS, a WAY and a sheet of two lines: something that a wrong call could change. */
    static Bench busy() {
        Bench x = Checks.bench(HEXAGON, new int[][] {{7}}, BENT);
        Checks.due("reduce(2)", x.reduce(2), 3);
        Checks.due("rows(1, 7)", x.rows(1, 7), 2);
        x.write(new int[][] {{3, 1}, {-2, 5}});
        return x;
    }

    /** The same with more lattices of one way. */
    static Bench busyWithLattices(int count) {
        Bench x = busy();
        x.fillUpTo(count);
        x.write(new int[][] {{3, 1}, {-2, 5}});
        return x;
    }
}
