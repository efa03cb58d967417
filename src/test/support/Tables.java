/** Tables that several tests use, and benches with them. */
final class Tables {
    static final int[][] ONE = {{1}};
    static final int[][] SQUARE = {{1, 0}, {0, 1}};
    static final int[][] HEXAGON = {{2, -1}, {-1, 2}};
    static final int[][] CUBE = {{1, 0, 0}, {0, 1, 0}, {0, 0, 1}};
    static final int[][] CUBE4 = {{1, 0, 0, 0}, {0, 1, 0, 0}, {0, 0, 1, 0}, {0, 0, 0, 1}};
    static final int[][] D4 = {{2, -1, 0, 0}, {-1, 2, -1, -1}, {0, -1, 2, 0}, {0, -1, 0, 2}};
    /** One of 1, 2, 3 and 4 ways. */
    static final int[][][] OF_WAYS = {ONE, SQUARE, CUBE, CUBE4};
    static final int[][] GREATEST = {{999, 0, 0, 0}, {0, 999, 0, 0}, {0, 0, 999, 0}, {0, 0, 0, 999}};
    /** The squares' lattice by long lines: boxes are wide though ROWS are few; by the longer ones MIN is SPENT. */
    static final int[][] BENT = {{89, 144}, {144, 233}};
    static final int[][] MORE_BENT = {{233, 377}, {377, 610}};
    /** ROWS up to the least number across: 1,000 and 1,002; in boxes of 299,997 and 300,001. */
    static final int[][] ROWS_1000 = {{155, 126, 125}, {126, 105, 101}, {125, 101, 101}};
    static final int[][] ROWS_1002 = {{101, -151, -115}, {-151, 227, 173}, {-115, 173, 132}};
    static final int[][] BOX_299997 = {{138, -55, -20}, {-55, 66, 28}, {-20, 28, 12}};
    static final int[][] BOX_300001 = {{62, -115, -13, -102}, {-115, 324, 25, 166}, {-13, 25, 3, 24},
        {-102, 166, 24, 202}};

    private Tables() {
    }

    /** CUBE4 by lines of which one is of SIZE 10, the others of SIZE 1. */
    static int[][] withLongLine(int at) {
        int[][] table = {{10, 3, 0, 0}, {3, 1, 0, 0}, {0, 0, 1, 0}, {0, 0, 0, 1}};
        return turned(table, at);
    }

    /** CUBE4 by lines of which one is of SIZE 1, the others of 14 and more. */
    static int[][] withShortLine(int at) {
        int[][] table = {{1, 0, 0, 0}, {0, 14, 14, 31}, {0, 14, 17, 35}, {0, 31, 35, 74}};
        return turned(table, at);
    }

    /** The same lattice, its lines told from another one on: the first stands at a place. */
    private static int[][] turned(int[][] table, int at) {
        int n = table.length;
        int[][] out = new int[n][n];
        for (int i = 0; i < n; i++) {
            for (int k = 0; k < n; k++) {
                out[(i + at) % n][(k + at) % n] = table[i][k];
            }
        }
        return out;
    }

    /** Four lattices, a LIST of two ROWS, a WAY and a sheet of two lines: something that a wrong call could change. */
    static Bench busy() {
        Bench x = Checks.bench(HEXAGON, new int[][] {{7}}, BENT);
        Checks.due("reduce(2)", x.reduce(2), 3);
        Checks.due("rows(1, 7)", x.rows(1, 7), 2);
        x.write(new int[][] {{3, 1}, {-2, 5}});
        return x;
    }

    /** The same with more lattices of one way. */
    static Bench busyWithLattices(int count) {
        Bench x = busy();
        x.fillUpTo(count);
        x.write(new int[][] {{3, 1}, {-2, 5}});
        return x;
    }
}
