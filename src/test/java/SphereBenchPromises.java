/** For each promise of the document: ordinary calls, the edges that it names, and wrong calls. */
public final class SphereBenchPromises {
    private static final int OUT = -100000;
    private static final int[] FAR = {Integer.MIN_VALUE, Integer.MAX_VALUE, -1000000, 1000000};

    private static final int[][] ONE = {{1}};
    private static final int[][] SQUARE = {{1, 0}, {0, 1}};
    private static final int[][] HEXAGON = {{2, -1}, {-1, 2}};
    private static final int[][] CUBE = {{1, 0, 0}, {0, 1, 0}, {0, 0, 1}};
    private static final int[][] CUBE4 = {{1, 0, 0, 0}, {0, 1, 0, 0}, {0, 0, 1, 0}, {0, 0, 0, 1}};
    private static final int[][] D4 = {{2, -1, 0, 0}, {-1, 2, -1, -1}, {0, -1, 2, 0}, {0, -1, 0, 2}};
    /** The squares' lattice by long lines: boxes are wide though ROWS are few. */
    private static final int[][] BENT = {{89, 144}, {144, 233}};
    private static final int[][] MORE_BENT = {{233, 377}, {377, 610}};

    private static int promise = 0;
    private static int wrong = 0;

    public static void main(String[] args) {
        promise1NewObject();
        promise2Sheet();
        promise3Cell();
        promise4CellOf();
        promise5Take();
        promise6Table();
        promise7About();
        promise8Rows();
        promise9Theta();
        promise10Row();
        promise11Size();
        promise12Reduce();
        promise13Same();
        promise14Way();
        promise15WayWorth();
        promise16Dual();
        promise17Sum();
        promise18Scale();
        promise19Within();
        promise20Index();
        promise21Denser();
        promise22Nearest();
        promise23Told();
        System.out.println(wrong == 0 ? "all promises are kept" : wrong + " answers break a promise");
        if (wrong != 0) {
            System.exit(1);
        }
    }

    private static void due(String call, long got, long want) {
        if (got != want) {
            wrong++;
            System.out.println("promise " + promise + ": " + call + " answered " + got + ", due is " + want);
        }
    }

    private static void due(String call, boolean got, boolean want) {
        due(call, got ? 1 : 0, want ? 1 : 0);
    }

    private static SphereBench bench(int[][]... tables) {
        SphereBench x = new SphereBench();
        for (int[][] table : tables) {
            due("take() of a test's table", take(x, table), x.told(0) - 1);
        }
        return x;
    }

    private static void write(SphereBench x, int[][] numbers) {
        x.sheet(numbers.length);
        for (int i = 0; i < numbers.length; i++) {
            for (int k = 0; k < numbers.length; k++) {
                x.cell(i, k, numbers[i][k]);
            }
        }
    }

    private static int take(SphereBench x, int[][] table) {
        write(x, table);
        return x.take();
    }

    private static void fill(SphereBench x) {
        while (x.told(0) < 20) {
            take(x, ONE);
        }
    }

    private static void dueTable(SphereBench x, int lattice, int[][] want) {
        due("about(" + lattice + ", 0)", x.about(lattice, 0), want.length);
        for (int i = 0; i < want.length; i++) {
            for (int k = 0; k < want.length; k++) {
                due("table(" + lattice + ", " + i + ", " + k + ")", x.table(lattice, i, k), want[i][k]);
            }
        }
    }

    private static void dueWay(SphereBench x, int[][] want) {
        due("told(3)", x.told(3), want.length);
        for (int i = 0; i < want.length; i++) {
            for (int k = 0; k < want.length; k++) {
                due("way(" + i + ", " + k + ")", x.way(i, k), want[i][k]);
            }
        }
    }

    private static void dueList(SphereBench x, int[][] want) {
        due("told(2)", x.told(2), want.length);
        for (int i = 0; i < want.length; i++) {
            for (int k = 0; k < want[i].length; k++) {
                due("row(" + i + ", " + k + ")", x.row(i, k), want[i][k]);
            }
        }
    }

    private static void promise1NewObject() {
        promise = 1;
        SphereBench x = new SphereBench();
        due("told(0)", x.told(0), 0);
        due("told(1)", x.told(1), 1);
        due("told(2)", x.told(2), 0);
        due("told(3)", x.told(3), 0);
        due("cellOf(0, 0)", x.cellOf(0, 0), 1);
        due("index()", x.index(), 1);
        due("take()", x.take(), 0);
        dueTable(x, 0, ONE);
        SphereBench y = new SphereBench();
        due("told(0) of another object", y.told(0), 0);
    }

    private static void promise2Sheet() {
        promise = 2;
        SphereBench x = new SphereBench();
        for (int n = 1; n <= 4; n++) {
            due("cell(0, 0, 7)", x.cell(0, 0, 7), true);
            due("sheet(" + n + ")", x.sheet(n), true);
            due("told(1)", x.told(1), n);
            for (int i = 0; i < n; i++) {
                for (int k = 0; k < n; k++) {
                    due("cellOf(" + i + ", " + k + ")", x.cellOf(i, k), 0);
                }
            }
            due("cellOf(n, 0)", x.cellOf(n, 0), OUT);
        }
        x.cell(3, 3, 5);
        int[] others = {0, 5, -1, Integer.MIN_VALUE, Integer.MAX_VALUE};
        for (int n : others) {
            due("sheet(" + n + ")", x.sheet(n), false);
            due("told(1)", x.told(1), 4);
            due("cellOf(3, 3)", x.cellOf(3, 3), 5);
        }
    }

    private static void promise3Cell() {
        promise = 3;
        SphereBench x = new SphereBench();
        x.sheet(3);
        due("cell(0, 2, 999)", x.cell(0, 2, 999), true);
        due("cell(2, 0, -999)", x.cell(2, 0, -999), true);
        due("cellOf(0, 2)", x.cellOf(0, 2), 999);
        due("cellOf(2, 0)", x.cellOf(2, 0), -999);
        due("cell(0, 2, 1000)", x.cell(0, 2, 1000), false);
        due("cell(2, 0, -1000)", x.cell(2, 0, -1000), false);
        due("cell(0, 3, 1)", x.cell(0, 3, 1), false);
        due("cell(3, 0, 1)", x.cell(3, 0, 1), false);
        due("cell(-1, 0, 1)", x.cell(-1, 0, 1), false);
        due("cell(0, -1, 1)", x.cell(0, -1, 1), false);
        for (int far : FAR) {
            due("cell(far, 0, 1)", x.cell(far, 0, 1), false);
            due("cell(0, far, 1)", x.cell(0, far, 1), false);
            due("cell(0, 2, far)", x.cell(0, 2, far), false);
        }
        for (int i = 0; i < 3; i++) {
            for (int k = 0; k < 3; k++) {
                int want = i == 0 && k == 2 ? 999 : i == 2 && k == 0 ? -999 : 0;
                due("cellOf(" + i + ", " + k + ")", x.cellOf(i, k), want);
            }
        }
    }

    private static void promise4CellOf() {
        promise = 4;
        SphereBench x = new SphereBench();
        write(x, new int[][] {{1, -2}, {3, -4}});
        due("cellOf(0, 0)", x.cellOf(0, 0), 1);
        due("cellOf(0, 1)", x.cellOf(0, 1), -2);
        due("cellOf(1, 0)", x.cellOf(1, 0), 3);
        due("cellOf(1, 1)", x.cellOf(1, 1), -4);
        due("cellOf(2, 0)", x.cellOf(2, 0), OUT);
        due("cellOf(0, 2)", x.cellOf(0, 2), OUT);
        due("cellOf(-1, 0)", x.cellOf(-1, 0), OUT);
        due("cellOf(0, -1)", x.cellOf(0, -1), OUT);
        for (int far : FAR) {
            due("cellOf(far, far)", x.cellOf(far, far), OUT);
        }
    }

    private static void promise5Take() {
        promise = 5;
        SphereBench x = new SphereBench();
        due("unlike in line 0", take(x, new int[][] {{1, 0, 1}, {0, 1, 2}, {0, 0, 1}}), -10);
        due("unlike in line 1", take(x, new int[][] {{1, 0, 0}, {0, 1, 2}, {0, 0, 1}}), -11);
        due("unlike in line 2", take(x, new int[][] {{1, 0, 0, 0}, {0, 1, 0, 0}, {0, 0, 1, 2}, {0, 0, 0, 1}}), -12);
        due("unlike comes before flat", take(x, new int[][] {{-1, 0}, {1, 1}}), -10);
        due("flat first corner", take(x, new int[][] {{0, 1}, {1, 1}}), -21);
        due("first corner below 0", take(x, new int[][] {{-1}}), -21);
        due("flat second corner", take(x, new int[][] {{1, 1, 0}, {1, 1, 0}, {0, 0, 1}}), -22);
        due("flat third corner", take(x, new int[][] {{2, 1, 1}, {1, 2, -1}, {1, -1, 2}}), -23);
        int[][] below = {{1, 0, 0, 2}, {0, 1, 0, 0}, {0, 0, 1, 0}, {2, 0, 0, 3}};
        due("fourth corner below 0", take(x, below), -24);
        due("told(0)", x.told(0), 0);
        due("the greatest table", take(x, new int[][] {{999, -998}, {-998, 999}}), 0);
        dueTable(x, 0, new int[][] {{999, -998}, {-998, 999}});
        due("the next number", take(x, D4), 1);
        dueTable(x, 1, D4);
        x.cell(0, 0, 3);
        due("table(1, 0, 0) when the sheet changes", x.table(1, 0, 0), 2);
        for (int i = 2; i < 20; i++) {
            due("take()", take(x, ONE), i);
        }
        due("the 21st take()", x.take(), -1);
        due("the 21st, of an unlike sheet", take(x, new int[][] {{1, 1}, {0, 1}}), -1);
        due("told(0)", x.told(0), 20);
    }

    private static void promise6Table() {
        promise = 6;
        SphereBench x = bench(HEXAGON, CUBE);
        dueTable(x, 0, HEXAGON);
        dueTable(x, 1, CUBE);
        due("table(0, 2, 0)", x.table(0, 2, 0), OUT);
        due("table(0, 0, 2)", x.table(0, 0, 2), OUT);
        due("table(0, -1, 0)", x.table(0, -1, 0), OUT);
        due("table(0, 0, -1)", x.table(0, 0, -1), OUT);
        due("table(2, 0, 0)", x.table(2, 0, 0), OUT);
        due("table(-1, 0, 0)", x.table(-1, 0, 0), OUT);
        for (int far : FAR) {
            due("table(far, 0, 0)", x.table(far, 0, 0), OUT);
            due("table(0, far, far)", x.table(0, far, far), OUT);
        }
    }

    private static void promise7About() {
        promise = 7;
        int[][] flat = {{999, 0, 0}, {0, 1, 0}, {0, 0, 1}};
        SphereBench x = bench(D4, BENT, MORE_BENT, new int[][] {{2, 0}, {0, 3}}, flat);
        long[][] want = {{4, 4, 1, 2, 24, 1, 1152}, {2, 1, 0, 1, 4, 0, 8}, {2, 1, 0, -2, -2, -2, -2},
            {2, 6, 0, 2, 2, 0, 4}, {3, 999, 0, 1, 4, 0, -2}};
        for (int time = 0; time < 2; time++) {
            for (int a = 0; a < want.length; a++) {
                for (int what = 0; what < 7; what++) {
                    due("about(" + a + ", " + what + ")", x.about(a, what), want[a][what]);
                }
            }
        }
        due("about(0, 7)", x.about(0, 7), -1);
        due("about(0, -1)", x.about(0, -1), -1);
        due("about(5, 0)", x.about(5, 0), -1);
        due("about(-1, 0)", x.about(-1, 0), -1);
        for (int far : FAR) {
            due("about(far, 0)", x.about(far, 0), -1);
            due("about(0, far)", x.about(0, far), -1);
        }
        due("told(2)", x.told(2), 0);
        due("told(3)", x.told(3), 0);
        perfectOnes();
        turnsUpToTheLastTry();
    }

    private static void perfectOnes() {
        int[][] a3 = {{2, -1, 0}, {-1, 2, -1}, {0, -1, 2}};
        int[][] a4 = {{2, -1, 0, 0}, {-1, 2, -1, 0}, {0, -1, 2, -1}, {0, 0, -1, 2}};
        int[][] nearlyA3 = {{2, -1, 0}, {-1, 2, -1}, {0, -1, 3}};
        int[][] bentHexagon = {{2, 5}, {5, 14}};
        SphereBench x = bench(ONE, HEXAGON, a3, a4, nearlyA3, bentHexagon, CUBE4);
        int[] perfect = {1, 1, 1, 1, 0, 1, 0};
        for (int a = 0; a < perfect.length; a++) {
            due("about(" + a + ", 5)", x.about(a, 5), perfect[a]);
        }
        due("KISS of a4", x.about(3, 4), 20);
        due("TURNS of a4", x.about(3, 6), 240);
        due("TURNS of the cube of four ways", x.about(6, 6), 384);
    }

    /** The same lattice by two tables: its TURNS take 198,744 and would take 200,472 TRIES. */
    private static void turnsUpToTheLastTry() {
        int[][] under = {{2, -1, -2, -4}, {-1, 2, 3, 5}, {-2, 3, 6, 10}, {-4, 5, 10, 18}};
        int[][] over = {{2, 3, -3, -5}, {3, 6, -5, -6}, {-3, -5, 6, 9}, {-5, -6, 9, 18}};
        SphereBench x = bench(under, over);
        due("TURNS by 198,744 TRIES", x.about(0, 6), 1152);
        due("TURNS by 200,472 TRIES", x.about(1, 6), -2);
        due("KISS where TURNS are SPENT", x.about(1, 4), 24);
    }

    private static void promise8Rows() {
        promise = 8;
        SphereBench x = bench(ONE, SQUARE, CUBE4, BENT, MORE_BENT);
        due("rows(1, 2)", x.rows(1, 2), 8);
        int[][] order = {{-1, 0}, {0, -1}, {0, 1}, {1, 0}, {-1, -1}, {-1, 1}, {1, -1}, {1, 1}};
        dueList(x, order);
        due("rows(1, 0)", x.rows(1, 0), -1);
        due("rows(1, -5)", x.rows(1, -5), -1);
        due("rows(1, 1000001)", x.rows(1, 1000001), -1);
        due("rows(5, 2)", x.rows(5, 2), -1);
        due("rows(-1, 2)", x.rows(-1, 2), -1);
        due("1002 ROWS", x.rows(0, 251001), -2);
        due("rows(0, 1000000)", x.rows(0, 1000000), -2);
        due("too wide a box", x.rows(4, 199), -2);
        for (int far : FAR) {
            due("rows(far, 1)", x.rows(far, 1), -1);
        }
        due("rows(1, MIN)", x.rows(1, Integer.MIN_VALUE), -1);
        due("rows(1, MAX)", x.rows(1, Integer.MAX_VALUE), -1);
        dueList(x, order);
        due("size(7)", x.size(7), 2);
        due("1000 ROWS", x.rows(0, 251000), 1000);
        due("row(0, 0)", x.row(0, 0), -1);
        due("row(999, 0)", x.row(999, 0), 500);
        due("size(999)", x.size(999), 250000);
        due("rows(2, 13)", x.rows(2, 13), 872);
        due("rows(2, 14)", x.rows(2, 14), -2);
        due("told(2)", x.told(2), 872);
        due("the widest box", x.rows(4, 198), gauss(198));
        due("rows(3, 300)", x.rows(3, 300), gauss(300));
        due("one more in a box that is wide", x.rows(3, 316), gauss(316));
        due("no ROWS", bench(new int[][] {{5}}).rows(0, 4), 0);
        dueNoRowsClearsTheList();
        dueSizesRise(x);
    }

    private static void dueNoRowsClearsTheList() {
        SphereBench x = bench(new int[][] {{5}});
        due("rows(0, 20)", x.rows(0, 20), 4);
        due("rows(0, 4)", x.rows(0, 4), 0);
        due("told(2)", x.told(2), 0);
        due("row(0, 0)", x.row(0, 0), OUT);
        due("size(0)", x.size(0), -1);
    }

    private static void dueSizesRise(SphereBench x) {
        due("rows(3, 100)", x.rows(3, 100), gauss(100));
        for (int i = 0; i < x.told(2); i++) {
            long a = x.row(i, 0);
            long b = x.row(i, 1);
            due("size(" + i + ")", x.size(i), 89 * a * a + 288 * a * b + 233 * b * b);
            boolean later = i == 0 || x.size(i - 1) < x.size(i) || x.size(i - 1) == x.size(i)
                && (x.row(i - 1, 0) < a || x.row(i - 1, 0) == a && x.row(i - 1, 1) < b);
            due("order at " + i, later, true);
        }
    }

    /** How many pairs but 0, 0 have squares of at most s together. */
    private static int gauss(int s) {
        int count = -1;
        for (int a = -s; a <= s; a++) {
            for (int b = -s; b <= s; b++) {
                count += a * a + b * b <= s ? 1 : 0;
            }
        }
        return count;
    }

    private static void promise9Theta() {
        promise = 9;
        SphereBench x = bench(ONE, D4, MORE_BENT);
        x.rows(0, 4);
        int[] want = {0, 24, 0, 24, 0, 96, 0, 24, 0, 144};
        for (int size = 1; size <= want.length; size++) {
            due("theta(1, " + size + ")", x.theta(1, size), want[size - 1]);
        }
        due("theta(0, 250000)", x.theta(0, 250000), 2);
        due("theta(0, 251000)", x.theta(0, 251000), 0);
        due("theta(0, 251001)", x.theta(0, 251001), -2);
        due("theta(2, 185)", x.theta(2, 185), 16);
        due("theta(2, 199)", x.theta(2, 199), -2);
        due("theta(0, 0)", x.theta(0, 0), -1);
        due("theta(0, 1000001)", x.theta(0, 1000001), -1);
        due("theta(0, 1000000)", x.theta(0, 1000000), -2);
        due("theta(3, 1)", x.theta(3, 1), -1);
        due("theta(-1, 1)", x.theta(-1, 1), -1);
        for (int far : FAR) {
            due("theta(far, 1)", x.theta(far, 1), -1);
        }
        dueList(x, new int[][] {{-1}, {1}, {-2}, {2}});
    }

    private static void promise10Row() {
        promise = 10;
        SphereBench x = bench(HEXAGON, CUBE4);
        due("row(0, 0) of a new object", x.row(0, 0), OUT);
        x.rows(0, 2);
        dueList(x, new int[][] {{-1, -1}, {-1, 0}, {0, -1}, {0, 1}, {1, 0}, {1, 1}});
        due("row(5, 2)", x.row(5, 2), OUT);
        due("row(6, 0)", x.row(6, 0), OUT);
        due("row(-1, 0)", x.row(-1, 0), OUT);
        due("row(0, -1)", x.row(0, -1), OUT);
        for (int far : FAR) {
            due("row(far, 0)", x.row(far, 0), OUT);
            due("row(0, far)", x.row(0, far), OUT);
        }
        x.rows(1, 1);
        due("row(0, 3)", x.row(0, 3), 0);
        due("row(3, 3)", x.row(3, 3), -1);
        due("row(0, 4)", x.row(0, 4), OUT);
    }

    private static void promise11Size() {
        promise = 11;
        SphereBench x = bench(HEXAGON);
        due("size(0) of a new object", x.size(0), -1);
        x.rows(0, 8);
        due("size(0)", x.size(0), 2);
        due("size(5)", x.size(5), 2);
        due("size(6)", x.size(6), 6);
        due("size(17)", x.size(17), 8);
        due("size(18)", x.size(18), -1);
        due("size(-1)", x.size(-1), -1);
        for (int far : FAR) {
            due("size(far)", x.size(far), -1);
        }
        x.nearest(0, 60, 31, 7, 0, 0);
        due("size(0) of a NEAREST one", x.size(0), 2 * 31 * 31 - 2 * 31 * 7 + 2 * 7 * 7);
        due("size(1)", x.size(1), -1);
        SphereBench far = bench(new int[][] {{999, 0, 0, 0}, {0, 999, 0, 0}, {0, 0, 999, 0}, {0, 0, 0, 999}});
        due("the farthest place", far.nearest(0, 60, 5970, -5970, 30, -30), 16);
        due("size(15)", far.size(15), 4L * 999 * 900);
    }

    private static void promise12Reduce() {
        promise = 12;
        SphereBench x = bench(BENT, new int[][] {{2, 3}, {3, 7}}, new int[][] {{2, -3}, {-3, 7}},
            new int[][] {{5, 0, 1}, {0, 3, 0}, {1, 0, 5}}, new int[][] {{2, 1}, {1, 2}}, MORE_BENT);
        due("reduce(0)", x.reduce(0), 6);
        dueTable(x, 6, SQUARE);
        due("wayWorth() without sign", Math.abs(x.wayWorth()), 1);
        due("a half goes towards 0", x.reduce(1), 7);
        dueTable(x, 7, new int[][] {{2, 1}, {1, 3}});
        dueWay(x, new int[][] {{1, 0}, {-1, 1}});
        due("a half below 0 too", x.reduce(2), 8);
        dueTable(x, 8, new int[][] {{2, -1}, {-1, 3}});
        dueWay(x, new int[][] {{1, 0}, {1, 1}});
        due("like ones stay as they stand", x.reduce(3), 9);
        dueTable(x, 9, new int[][] {{3, 0, 0}, {0, 5, 1}, {0, 1, 5}});
        dueWay(x, new int[][] {{0, 1, 0}, {1, 0, 0}, {0, 0, 1}});
        due("wayWorth()", x.wayWorth(), -1);
        due("a table that is REDUCED", x.reduce(4), 10);
        dueTable(x, 10, new int[][] {{2, 1}, {1, 2}});
        dueWay(x, new int[][] {{1, 0}, {0, 1}});
        due("the most bent one", x.reduce(5), 11);
        dueTable(x, 11, SQUARE);
        int way = x.way(0, 0);
        due("reduce(12)", x.reduce(12), -1);
        due("reduce(-1)", x.reduce(-1), -1);
        for (int far : FAR) {
            due("reduce(far)", x.reduce(far), -1);
        }
        fill(x);
        due("reduce(3) when there are 20", x.reduce(3), -1);
        due("told(0)", x.told(0), 20);
        due("told(3)", x.told(3), 2);
        due("way(0, 0)", x.way(0, 0), way);
        firstPairFirst();
    }

    /** Pairs are tried from the first again after each that helps. */
    private static void firstPairFirst() {
        SphereBench x = bench(new int[][] {{3, -4, 2}, {-4, 8, -5}, {2, -5, 4}});
        due("reduce(0)", x.reduce(0), 1);
        dueTable(x, 1, new int[][] {{1, 0, 0}, {0, 2, 1}, {0, 1, 3}});
        dueWay(x, new int[][] {{1, 1, 1}, {0, -1, -1}, {-1, -1, 0}});
    }

    private static void promise13Same() {
        promise = 13;
        int[][] twice = {{999, 0}, {0, 999}};
        SphereBench x = bench(SQUARE, BENT, HEXAGON, new int[][] {{2, 1}, {1, 2}}, new int[][] {{1, 0}, {0, 3}}, CUBE,
            MORE_BENT, twice, ONE);
        due("same(2, 3)", x.same(2, 3), 1);
        dueWay(x, new int[][] {{-1, -1}, {-1, 0}});
        due("same(2, 4), of like WORTH", x.same(2, 4), 0);
        due("same(0, 2), of unlike WORTH", x.same(0, 2), 0);
        due("unlike WORTH where ROWS are SPENT", x.same(6, 7), 0);
        due("same(6, 6)", x.same(6, 6), -2);
        due("same(0, 5)", x.same(0, 5), -1);
        due("same(0, 8)", x.same(0, 8), -1);
        due("same(0, 9)", x.same(0, 9), -1);
        due("same(9, 0)", x.same(9, 0), -1);
        due("same(-1, 0)", x.same(-1, 0), -1);
        for (int far : FAR) {
            due("same(far, 0)", x.same(far, 0), -1);
            due("same(0, far)", x.same(0, far), -1);
        }
        dueWay(x, new int[][] {{-1, -1}, {-1, 0}});
        due("same(0, 0)", x.same(0, 0), 1);
        dueWay(x, new int[][] {{-1, 0}, {0, -1}});
        due("same(1, 0)", x.same(1, 0), 1);
        dueMeetings(x, 1, SQUARE);
        due("same(0, 1)", x.same(0, 1), 1);
        dueMeetings(x, 0, BENT);
        due("same(8, 8)", x.same(8, 8), 1);
        dueWay(x, new int[][] {{-1}});
        due("told(0)", x.told(0), 9);
        due("told(2)", x.told(2), 0);
        sameBeyondTheLastTry();
    }

    /** No WAY leads there, though WORTH is alike: it takes 101,688 TRIES to say so, or more than there may be. */
    private static void sameBeyondTheLastTry() {
        int[][] over = {{2, 3, -3, -5}, {3, 6, -5, -6}, {-3, -5, 6, 9}, {-5, -6, 9, 18}};
        SphereBench x = bench(new int[][] {{2, -1, 0, 1}, {-1, 2, -1, 0}, {0, -1, 2, -1}, {1, 0, -1, 2}},
            new int[][] {{18, -13, 1, 6}, {-13, 14, -2, -3}, {1, -2, 2, -1}, {6, -3, -1, 3}},
            new int[][] {{2, 0, 1, 1}, {0, 2, -1, 1}, {1, -1, 2, 0}, {1, 1, 0, 2}},
            new int[][] {{10, -11, -3, -5}, {-11, 18, -1, 7}, {-3, -1, 6, 0}, {-5, 7, 0, 3}}, D4, over);
        due("WORTH", x.about(0, 1), x.about(1, 1));
        due("none by 101,688 TRIES", x.same(0, 1), 0);
        due("WORTH", x.about(2, 1), x.about(3, 1));
        due("more than 200,000 TRIES", x.same(2, 3), -2);
        due("ROWS that are not SPENT there", x.rows(2, 18) > 0, true);
        due("told(3)", x.told(3), 0);
        due("a first WAY is found where all are too many", x.same(4, 5), 1);
        dueMeetings(x, 4, over);
    }

    private static void dueMeetings(SphereBench x, int from, int[][] want) {
        int n = want.length;
        for (int i = 0; i < n; i++) {
            for (int k = 0; k < n; k++) {
                long meeting = 0;
                for (int r = 0; r < n; r++) {
                    for (int c = 0; c < n; c++) {
                        meeting += (long) x.way(i, r) * x.table(from, r, c) * x.way(k, c);
                    }
                }
                due("MEETING " + i + ", " + k, meeting, want[i][k]);
            }
        }
    }

    private static void promise14Way() {
        promise = 14;
        SphereBench x = bench(new int[][] {{1, 2}, {2, 5}});
        due("way(0, 0) without one", x.way(0, 0), OUT);
        x.reduce(0);
        dueWay(x, new int[][] {{1, 0}, {-2, 1}});
        due("way(2, 0)", x.way(2, 0), OUT);
        due("way(0, 2)", x.way(0, 2), OUT);
        due("way(-1, 0)", x.way(-1, 0), OUT);
        due("way(0, -1)", x.way(0, -1), OUT);
        for (int far : FAR) {
            due("way(far, 0)", x.way(far, 0), OUT);
            due("way(0, far)", x.way(0, far), OUT);
        }
        take(x, CUBE);
        x.about(0, 6);
        x.dual(0);
        dueWay(x, new int[][] {{1, 0}, {-2, 1}});
    }

    private static void promise15WayWorth() {
        promise = 15;
        SphereBench x = bench(new int[][] {{3, 0}, {0, 2}}, HEXAGON, new int[][] {{2, 1}, {1, 2}}, D4);
        due("wayWorth() without one", x.wayWorth(), 0);
        x.same(1, 0);
        due("wayWorth() without one still", x.wayWorth(), 0);
        x.reduce(0);
        due("of two ROWS changed about", x.wayWorth(), -1);
        x.reduce(1);
        due("of one ROW from another", x.wayWorth(), 1);
        x.same(1, 2);
        due("of the first WAY", x.wayWorth(), -1);
        x.same(3, 3);
        due("of a WAY of four ROWS", Math.abs(x.wayWorth()), 1);
    }

    private static void promise16Dual() {
        promise = 16;
        SphereBench x = bench(HEXAGON, new int[][] {{7}}, D4, new int[][] {{2, 1, 0}, {1, 3, -1}, {0, -1, 4}},
            new int[][] {{999, 0, 0}, {0, 1, 0}, {0, 0, 1}}, new int[][] {{500, 0, 0}, {0, 2, 0}, {0, 0, 1}});
        due("dual(0)", x.dual(0), 6);
        dueTable(x, 6, new int[][] {{2, 1}, {1, 2}});
        due("dual of one way", x.dual(1), 7);
        dueTable(x, 7, ONE);
        due("dual(2)", x.dual(2), 8);
        dueTable(x, 8, new int[][] {{4, 4, 2, 2}, {4, 8, 4, 4}, {2, 4, 4, 2}, {2, 4, 2, 4}});
        due("dual(3)", x.dual(3), 9);
        dueTable(x, 9, new int[][] {{11, -4, -1}, {-4, 8, 2}, {-1, 2, 5}});
        due("a number of 999", x.dual(4), 10);
        dueTable(x, 10, new int[][] {{1, 0, 0}, {0, 999, 0}, {0, 0, 999}});
        due("a number of 1000", x.dual(5), -1);
        due("dual(11)", x.dual(11), -1);
        due("dual(-1)", x.dual(-1), -1);
        for (int far : FAR) {
            due("dual(far)", x.dual(far), -1);
        }
        due("told(0)", x.told(0), 11);
        fill(x);
        due("dual(0) when there are 20", x.dual(0), -1);
        due("told(0)", x.told(0), 20);
    }

    private static void promise17Sum() {
        promise = 17;
        SphereBench x = bench(HEXAGON, new int[][] {{7}}, CUBE);
        due("sum(0, 1)", x.sum(0, 1), 3);
        dueTable(x, 3, new int[][] {{2, -1, 0}, {-1, 2, 0}, {0, 0, 7}});
        due("sum(1, 0)", x.sum(1, 0), 4);
        dueTable(x, 4, new int[][] {{7, 0, 0}, {0, 2, -1}, {0, -1, 2}});
        due("sum(0, 0)", x.sum(0, 0), 5);
        dueTable(x, 5, new int[][] {{2, -1, 0, 0}, {-1, 2, 0, 0}, {0, 0, 2, -1}, {0, 0, -1, 2}});
        due("sum(2, 1)", x.sum(2, 1), 6);
        due("five ways", x.sum(2, 0), -1);
        due("eight ways", x.sum(5, 5), -1);
        due("sum(0, 7)", x.sum(0, 7), -1);
        due("sum(7, 0)", x.sum(7, 0), -1);
        due("sum(-1, 0)", x.sum(-1, 0), -1);
        for (int far : FAR) {
            due("sum(far, 0)", x.sum(far, 0), -1);
            due("sum(0, far)", x.sum(0, far), -1);
        }
        due("told(0)", x.told(0), 7);
        fill(x);
        due("sum(1, 1) when there are 20", x.sum(1, 1), -1);
        due("told(0)", x.told(0), 20);
    }

    private static void promise18Scale() {
        promise = 18;
        SphereBench x = bench(HEXAGON, ONE, new int[][] {{3, -2}, {-2, 333}});
        due("scale(0, 3)", x.scale(0, 3), 3);
        dueTable(x, 3, new int[][] {{6, -3}, {-3, 6}});
        due("scale(1, 999)", x.scale(1, 999), 4);
        dueTable(x, 4, new int[][] {{999}});
        due("scale(2, 3)", x.scale(2, 3), 5);
        dueTable(x, 5, new int[][] {{9, -6}, {-6, 999}});
        due("scale(2, 4)", x.scale(2, 4), -1);
        due("scale(0, 1)", x.scale(0, 1), 6);
        dueTable(x, 6, HEXAGON);
        due("scale(1, 0)", x.scale(1, 0), -1);
        due("scale(1, -1)", x.scale(1, -1), -1);
        due("scale(1, 1000)", x.scale(1, 1000), -1);
        due("scale(7, 1)", x.scale(7, 1), -1);
        due("scale(-1, 1)", x.scale(-1, 1), -1);
        for (int far : FAR) {
            due("scale(far, 1)", x.scale(far, 1), -1);
            due("scale(0, far)", x.scale(0, far), -1);
        }
        due("told(0)", x.told(0), 7);
        fill(x);
        due("scale(1, 1) when there are 20", x.scale(1, 1), -1);
        due("told(0)", x.told(0), 20);
    }

    private static void promise19Within() {
        promise = 19;
        SphereBench x = bench(HEXAGON, ONE, CUBE);
        write(x, new int[][] {{1, 1}, {2, -1}});
        due("within(0)", x.within(0), 3);
        dueTable(x, 3, new int[][] {{2, 1}, {1, 14}});
        due("within one of another n", x.within(1), -1);
        due("within one of another n", x.within(2), -1);
        write(x, new int[][] {{1, 2, 0}, {0, 1, -1}, {3, 0, 0}});
        due("within(2)", x.within(2), 4);
        dueTable(x, 4, new int[][] {{5, 2, 3}, {2, 2, 0}, {3, 0, 9}});
        due("WORTH is the square of the index times WORTH", x.about(4, 1), x.index() * x.index());
        write(x, new int[][] {{1, 2}, {2, 4}});
        due("a determinant of 0", x.within(0), -1);
        write(x, new int[][] {{31}});
        due("a number of 961", x.within(1), 5);
        write(x, new int[][] {{32}});
        due("a number of 1024", x.within(1), -1);
        write(x, new int[][] {{-999}});
        due("a number of 998001", x.within(1), -1);
        write(x, new int[][] {{-1}});
        due("within(6)", x.within(6), -1);
        due("within(-1)", x.within(-1), -1);
        for (int far : FAR) {
            due("within(far)", x.within(far), -1);
        }
        due("told(0)", x.told(0), 6);
        due("within(1)", x.within(1), 6);
        dueTable(x, 6, ONE);
        fill(x);
        due("within(1) when there are 20", x.within(1), -1);
        due("told(0)", x.told(0), 20);
    }

    private static void promise20Index() {
        promise = 20;
        SphereBench x = new SphereBench();
        write(x, new int[][] {{-7}});
        due("of one line", x.index(), 7);
        write(x, new int[][] {{1, 2}, {3, 4}});
        due("of two lines", x.index(), 2);
        write(x, new int[][] {{1, 2, 3}, {4, 5, 6}, {7, 8, 9}});
        due("of lines made of others", x.index(), 0);
        write(x, new int[][] {{0, 0, 0, 1}, {0, 0, 2, 0}, {0, 3, 0, 0}, {5, 0, 0, 0}});
        due("of four lines", x.index(), 30);
        write(x, new int[][] {{999, 999, 999, 999}, {999, -999, 999, -999}, {999, 999, -999, -999},
            {999, -999, -999, 999}});
        due("the greatest", x.index(), 16L * 999 * 999 * 999 * 999);
        x.sheet(3);
        due("of noughts", x.index(), 0);
    }

    private static void promise21Denser() {
        promise = 21;
        SphereBench x = bench(SQUARE, HEXAGON, CUBE, MORE_BENT, BENT);
        due("denser(1, 0)", x.denser(1, 0), 1);
        due("denser(0, 1)", x.denser(0, 1), -1);
        due("denser(0, 4)", x.denser(0, 4), 0);
        due("denser(0, 3)", x.denser(0, 3), -2);
        due("denser(3, 0)", x.denser(3, 0), -2);
        due("denser(2, 0)", x.denser(2, 0), -3);
        due("denser(2, 3)", x.denser(2, 3), -3);
        due("denser(0, 5)", x.denser(0, 5), -3);
        due("denser(-1, 0)", x.denser(-1, 0), -3);
        for (int far : FAR) {
            due("denser(far, 0)", x.denser(far, 0), -3);
            due("denser(0, far)", x.denser(0, far), -3);
        }
        denserBeyondALong();
    }

    /** Here the products that are compared are beyond a long: 999 ^ 4 * 999 ^ 4. */
    private static void denserBeyondALong() {
        int[][] a = {{999, 0, 0, 0}, {0, 999, 0, 0}, {0, 0, 999, 0}, {0, 0, 0, 999}};
        int[][] b = {{998, 0, 0, 0}, {0, 998, 0, 0}, {0, 0, 998, 0}, {0, 0, 0, 998}};
        int[][] c = {{998, 0, 0, 0}, {0, 998, 0, 0}, {0, 0, 998, 1}, {0, 0, 1, 998}};
        int[][] d = {{998, 0, 0, 0}, {0, 999, 0, 0}, {0, 0, 999, 0}, {0, 0, 0, 999}};
        SphereBench x = bench(a, b, c, d);
        due("like ones", x.denser(0, 1), 0);
        due("one a very little denser", x.denser(2, 0), 1);
        due("the other one", x.denser(0, 2), -1);
        due("one a little less dense", x.denser(3, 2), -1);
        due("the other one", x.denser(2, 3), 1);
    }

    private static void promise22Nearest() {
        promise = 22;
        SphereBench x = bench(SQUARE, HEXAGON, CUBE4, MORE_BENT, BENT, ONE);
        due("the middle of a square", x.nearest(0, 2, 1, -1, 0, 0), 4);
        dueList(x, new int[][] {{0, -1}, {0, 0}, {1, -1}, {1, 0}});
        due("size(3)", x.size(3), 2);
        due("the middle of three", x.nearest(1, 3, 2, 1, 6001, -6001), 3);
        dueList(x, new int[][] {{0, 0}, {1, 0}, {1, 1}});
        due("nearest(1, 61, 0, 0, 0, 0)", x.nearest(1, 61, 0, 0, 0, 0), -1);
        due("nearest(1, 0, 0, 0, 0, 0)", x.nearest(1, 0, 0, 0, 0, 0), -1);
        due("nearest(1, 1, 6001, 0, 0, 0)", x.nearest(1, 1, 6001, 0, 0, 0), -1);
        due("nearest(1, 1, 0, -6001, 0, 0)", x.nearest(1, 1, 0, -6001, 0, 0), -1);
        due("nearest(2, 1, 0, 0, 6001, 0)", x.nearest(2, 1, 0, 0, 6001, 0), -1);
        due("nearest(2, 1, 0, 0, 0, -6001)", x.nearest(2, 1, 0, 0, 0, -6001), -1);
        due("nearest(6, 1, 0, 0, 0, 0)", x.nearest(6, 1, 0, 0, 0, 0), -1);
        due("nearest(-1, 1, 0, 0, 0, 0)", x.nearest(-1, 1, 0, 0, 0, 0), -1);
        due("too wide a box", x.nearest(3, 60, 30, 30, 0, 0), -2);
        for (int far : FAR) {
            due("nearest(far, 1, 0, 0, 0, 0)", x.nearest(far, 1, 0, 0, 0, 0), -1);
            due("nearest(0, far, 0, 0, 0, 0)", x.nearest(0, far, 0, 0, 0, 0), -1);
            due("nearest(0, 1, far, 0, 0, 0)", x.nearest(0, 1, far, 0, 0, 0), -1);
            due("nearest(0, 1, 0, far, 0, 0)", x.nearest(0, 1, 0, far, 0, 0), -1);
        }
        dueList(x, new int[][] {{0, 0}, {1, 0}, {1, 1}});
        due("numbers beyond n don't count", x.nearest(5, 60, -6000, Integer.MIN_VALUE, 6001, Integer.MAX_VALUE), 1);
        dueList(x, new int[][] {{-100}});
        due("size(0)", x.size(0), 0);
        due("the farthest places", x.nearest(2, 1, 6000, -6000, 6000, -6000), 1);
        dueList(x, new int[][] {{6000, -6000, 6000, -6000}});
        due("all of sixteen", x.nearest(2, 2, 1, 1, 1, 1), 16);
        due("row(0, 3)", x.row(0, 3), 0);
        due("row(1, 3)", x.row(1, 3), 1);
        due("row(15, 0)", x.row(15, 0), 1);
        nearestOfABentTable(x);
    }

    /** ROWS nearest to a place are far from its nearest whole numbers when the table's lines are long. */
    private static void nearestOfABentTable(SphereBench x) {
        due("nearest(4, 2, 1, 0, 0, 0)", x.nearest(4, 2, 1, 0, 0, 0), 2);
        for (int i = 0; i < 2; i++) {
            long a = 2L * x.row(i, 0) - 1;
            long b = 2L * x.row(i, 1);
            due("size(" + i + ")", x.size(i), 89 * a * a + 288 * a * b + 233 * b * b);
            due("size(" + i + "), the least there is", x.size(i), 1);
        }
        due("the lower number first", x.row(0, 0) < x.row(1, 0), true);
        due("the box by the nearest whole numbers", x.nearest(3, 60, 59, 59, 0, 0), 1);
        due("size(0)", x.size(0), 21 * 21 + 26 * 26);
        due("the box by a half upwards", x.nearest(3, 6, 3, 2, 0, 0), 2);
        due("size(1)", x.size(1), 2 * 2 + 3 * 3);
        due("too wide a box by a half upwards", x.nearest(3, 6, 3, 4, 0, 0), -2);
        due("told(2)", x.told(2), 2);
    }

    private static void promise23Told() {
        promise = 23;
        SphereBench x = bench(HEXAGON, CUBE);
        due("told(0)", x.told(0), 2);
        due("told(1)", x.told(1), 3);
        due("told(2)", x.told(2), 0);
        due("told(3)", x.told(3), 0);
        x.rows(0, 2);
        x.reduce(1);
        due("told(0)", x.told(0), 3);
        due("told(2)", x.told(2), 6);
        due("told(3)", x.told(3), 3);
        x.nearest(0, 1, 0, 0, 0, 0);
        due("told(2)", x.told(2), 1);
        due("told(4)", x.told(4), -1);
        due("told(-1)", x.told(-1), -1);
        for (int far : FAR) {
            due("told(far)", x.told(far), -1);
        }
        due("NONE", SphereBench.NONE, -1);
    }
}
