/** What the tests of the project hold answers with: each test has a name, and each wrong answer is told with it. */
final class Checks {
    /** What reading calls answer outside of what they read. */
    static final int OUT = -100000;
    static final int[] FAR = {Integer.MIN_VALUE, Integer.MAX_VALUE, -1000000, 1000000};

    private static String test = "";
    private static int tests = 0;
    private static int wrong = 0;

    private Checks() {
    }

    /** The name tells the promise or the term, and its sentence. */
    static void test(String name, Runnable body) {
        test = name;
        tests++;
        body.run();
    }

    static void fault(String what) {
        wrong++;
        System.out.println(test + ": " + what);
    }

    static int faults() {
        return wrong;
    }

    static void due(String call, long got, long want) {
        if (got != want) {
            fault(call + " answered " + got + ", due is " + want);
        }
    }

    static void due(String call, boolean got, boolean want) {
        if (got != want) {
            fault(call + " answered " + got + ", due is " + want);
        }
    }

    static void due(String what, String got, String want) {
        if (!got.equals(want)) {
            fault(what + ":\n  is  " + got + "\n  due " + want);
        }
    }

    /** Calls after which all that can be read is as before. */
    static void dueUnchanged(Bench x, Runnable calls) {
        String before = x.state();
        calls.run();
        due("what can be read after calls that change nothing", x.state(), before);
    }

    static Bench bench(int[][]... tables) {
        Bench x = new Bench();
        for (int a = 0; a < tables.length; a++) {
            due("take() of a test's table", x.take(tables[a]), a);
        }
        return x;
    }

    /** That no call takes a number for a lattice. */
    static void dueNoLattice(Bench x, int a) {
        due("table(" + a + ", 0, 0)", x.table(a, 0, 0), OUT);
        due("about(" + a + ", 0)", x.about(a, 0), -1);
        due("rows(" + a + ", 1)", x.rows(a, 1), -1);
        due("theta(" + a + ", 1)", x.theta(a, 1), -1);
        due("same(" + a + ", " + a + ")", x.same(a, a), -1);
        due("denser(" + a + ", " + a + ")", x.denser(a, a), -3);
        due("nearest(" + a + ", 1, 0, 0, 0, 0)", x.nearest(a, 1, 0), -1);
        due("reduce(" + a + ")", x.reduce(a), -1);
        due("dual(" + a + ")", x.dual(a), -1);
        due("sum(" + a + ", " + a + ")", x.sum(a, a), -1);
        due("scale(" + a + ", 1)", x.scale(a, 1), -1);
        due("within(" + a + ")", x.within(a), -1);
    }

    static void dueTable(Bench x, int lattice, int[][] want) {
        int n = want.length;
        for (int i = 0; i < n; i++) {
            for (int k = 0; k < n; k++) {
                due("table(" + lattice + ", " + i + ", " + k + ")", x.table(lattice, i, k), want[i][k]);
            }
        }
        due("table(" + lattice + ", 0, n)", x.table(lattice, 0, n), OUT);
    }

    static void dueWay(Bench x, int[][] want) {
        due("told(3)", x.told(3), want.length);
        for (int i = 0; i < want.length; i++) {
            for (int k = 0; k < want.length; k++) {
                due("way(" + i + ", " + k + ")", x.way(i, k), want[i][k]);
            }
        }
    }

    static void dueList(Bench x, int[][] want) {
        due("told(2)", x.told(2), want.length);
        for (int i = 0; i < want.length; i++) {
            for (int k = 0; k < want[i].length; k++) {
                due("row(" + i + ", " + k + ")", x.row(i, k), want[i][k]);
            }
        }
    }

    /** That THE WAY's ROWS, of a lattice, meet as a table says. */
    static void dueMeetings(Bench x, int[][] from, int[][] want) {
        int n = want.length;
        long[][] way = new long[n][n];
        for (int i = 0; i < n; i++) {
            for (int k = 0; k < n; k++) {
                way[i][k] = x.way(i, k);
            }
        }
        for (int i = 0; i < n; i++) {
            for (int k = 0; k < n; k++) {
                long meeting = 0;
                for (int r = 0; r < n; r++) {
                    for (int c = 0; c < n; c++) {
                        meeting += way[i][r] * from[r][c] * way[k][c];
                    }
                }
                due("MEETING " + i + ", " + k, meeting, want[i][k]);
            }
        }
    }

    /** Ends the program, with exit code 1 if an answer was wrong. */
    static void end() {
        System.out.println(wrong == 0 ? tests + " tests, all answers are as due" : wrong + " answers are not as due");
        if (wrong != 0) {
            System.exit(1);
        }
    }
}
