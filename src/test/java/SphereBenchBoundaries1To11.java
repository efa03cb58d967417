/**
 * The boundary cases that promises 1 to 11 name: just at the boundary, one beyond it on each side where there is one,
 * and of refused calls that they change nothing. Each test's name is the promise's number and the sentence.
 */
public final class SphereBenchBoundaries1To11 {
    private static final int OUT = Checks.OUT;
    private static final int[] FAR = Checks.FAR;

    public static void main(String[] args) {
        newObjectAndSheet();
        takeAndTable();
        aboutAndRows();
        listIsRead();
        Checks.end();
    }

    private static void newObjectAndSheet() {
        Checks.test("1: No lattices", SphereBenchBoundaries1To11::newObjectHasNoLattices);
        Checks.test("1: a SHEET of one line, 1", SphereBenchBoundaries1To11::newObjectHasASheet);
        Checks.test("1: (the LIST and THE WAY of a new object)", SphereBenchBoundaries1To11::newObjectHasNoListOrWay);
        Checks.test("2: THE SHEET has n lines (1 .. 4): true", SphereBenchBoundaries1To11::sheetsOf1To4Lines);
        Checks.test("2: all numbers 0", SphereBenchBoundaries1To11::newSheetHasNoughts);
        Checks.test("2: False for others", SphereBenchBoundaries1To11::otherSheets);
        Checks.test("3: Number i, k of THE SHEET (0 from): true", SphereBenchBoundaries1To11::cellsInside);
        Checks.test("3: (THE SHEET: whole numbers, -999 to 999)", SphereBenchBoundaries1To11::cellsUpTo999);
        Checks.test("3: False, changing nothing, for others", SphereBenchBoundaries1To11::otherCells);
        Checks.test("4: A number of THE SHEET. -100000 for others", SphereBenchBoundaries1To11::cellOfInsideAndOutside);
    }

    private static void takeAndTable() {
        Checks.test("5: THE SHEET becomes the TABLE of a lattice", SphereBenchBoundaries1To11::takeCopiesTheSheet);
        Checks.test("5: its number. NONE: there are 20", SphereBenchBoundaries1To11::takeUpTo20);
        Checks.test("5: -10 - i: it isn't alike across in line i", SphereBenchBoundaries1To11::takeUnlike);
        Checks.test("5: -10 - i: (the first)", SphereBenchBoundaries1To11::takeFirstUnlike);
        Checks.test("5: -20 - k: the determinant isn't above 0", SphereBenchBoundaries1To11::takeFlat);
        Checks.test("5: -20 - k: (the first k)", SphereBenchBoundaries1To11::takeFirstFlat);
        Checks.test("5: the answers in their order", SphereBenchBoundaries1To11::takeInOrder);
        Checks.test("6: Number i, k of a TABLE. -100000 for others", SphereBenchBoundaries1To11::tableInsideAndOutside);
    }

    private static void aboutAndRows() {
        Checks.test("7: 0 n .. 6 TURNS. NONE for others", SphereBenchBoundaries1To11::aboutFrom0To6);
        Checks.test("7: -2 SPENT (3, 4, 5: if ROWS .. are): by ROWS", SphereBenchBoundaries1To11::aboutSpentByRows);
        Checks.test("7: -2 SPENT (3, 4, 5: if ROWS .. are): by box", SphereBenchBoundaries1To11::aboutSpentByBox);
        Checks.test("7: its TABLE's least number across", SphereBenchBoundaries1To11::aboutByTheLeastNumber);
        Checks.test("7: -2 SPENT (6)", SphereBenchBoundaries1To11::turnsSpent);
        Checks.test("7: (about() only tells)", SphereBenchBoundaries1To11::aboutChangesNothing);
        Checks.test("8: ROWS up to a SIZE (1 .. 1000000)", SphereBenchBoundaries1To11::rowsOfSizes);
        Checks.test("8: how many; they are the LIST", SphereBenchBoundaries1To11::rowsBecomeTheList);
        Checks.test("8: NONE, and the LIST stays: no such lattice, SIZE", SphereBenchBoundaries1To11::rowsRefused);
        Checks.test("8: -2: SPENT", SphereBenchBoundaries1To11::rowsSpent);
        Checks.test("9: How many ROWS have just a SIZE", SphereBenchBoundaries1To11::thetaOfJustASize);
        Checks.test("9: NONE, -2 as rows() (the LIST stays)", SphereBenchBoundaries1To11::thetaRefused);
    }

    private static void listIsRead() {
        Checks.test("10: Number k of ROW i. -100000 for others", SphereBenchBoundaries1To11::rowInsideAndOutside);
        Checks.test("11: The SIZE of ROW i. NONE for others", SphereBenchBoundaries1To11::sizeInsideAndOutside);
        Checks.test("11: (of NEAREST ones that of q * x - p)", SphereBenchBoundaries1To11::sizeOfNearest);
    }

    private static void newObjectHasNoLattices() {
        Bench x = new Bench();
        Checks.due("told(0)", x.told(0), 0);
        Checks.dueNoLattice(x, 0);
        Checks.dueNoLattice(x, -1);
        Checks.dueNoLattice(x, 1);
        Checks.due("the first lattice's number", x.take(), 0);
        Checks.due("told(0) of another object", new Bench().told(0), 0);
    }

    private static void newObjectHasASheet() {
        Bench x = new Bench();
        Checks.due("told(1)", x.told(1), 1);
        Checks.due("cellOf(0, 0)", x.cellOf(0, 0), 1);
        Checks.due("cellOf(0, 1)", x.cellOf(0, 1), OUT);
        Checks.due("cellOf(1, 0)", x.cellOf(1, 0), OUT);
        Checks.due("index()", x.index(), 1);
        Checks.due("take()", x.take(), 0);
        Checks.dueTable(x, 0, Tables.ONE);
    }

    private static void newObjectHasNoListOrWay() {
        Bench x = new Bench();
        Checks.due("told(2)", x.told(2), 0);
        Checks.due("row(0, 0)", x.row(0, 0), OUT);
        Checks.due("size(0)", x.size(0), -1);
        Checks.due("told(3)", x.told(3), 0);
        Checks.due("way(0, 0)", x.way(0, 0), OUT);
        Checks.due("wayWorth()", x.wayWorth(), 0);
    }

    private static void sheetsOf1To4Lines() {
        Bench x = new Bench();
        for (int n = 1; n <= 4; n++) {
            Checks.due("sheet(" + n + ")", x.sheet(n), true);
            Checks.due("told(1)", x.told(1), n);
            Checks.due("cellOf(n - 1, n - 1)", x.cellOf(n - 1, n - 1), 0);
            Checks.due("cellOf(n, n - 1)", x.cellOf(n, n - 1), OUT);
            Checks.due("cellOf(n - 1, n)", x.cellOf(n - 1, n), OUT);
        }
        Checks.due("sheet(4) again", x.sheet(4), true);
        Checks.due("sheet(1) after it", x.sheet(1), true);
        Checks.due("told(1)", x.told(1), 1);
    }

    private static void newSheetHasNoughts() {
        Bench x = new Bench();
        for (int before = 1; before <= 4; before++) {
            for (int n = 1; n <= 4; n++) {
                x.sheet(before);
                x.cell(0, 0, 999);
                x.cell(before - 1, before - 1, -999);
                x.cell(0, before - 1, 5);
                x.sheet(n);
                Checks.due("index() of " + n + " after " + before, x.index(), 0);
                Checks.due("cellOf(0, 0)", x.cellOf(0, 0), 0);
                Checks.due("cellOf(0, n - 1)", x.cellOf(0, n - 1), 0);
                Checks.due("cellOf(n - 1, n - 1)", x.cellOf(n - 1, n - 1), 0);
            }
        }
        x.write(new int[][] {{1, 2, 3, 4}, {5, 6, 7, 8}, {9, 10, 11, 12}, {13, 14, 15, 16}});
        x.sheet(4);
        for (int i = 0; i < 4; i++) {
            for (int k = 0; k < 4; k++) {
                Checks.due("cellOf(" + i + ", " + k + ")", x.cellOf(i, k), 0);
            }
        }
    }

    private static void otherSheets() {
        Bench x = Tables.busy();
        Checks.dueUnchanged(x, () -> {
            Checks.due("sheet(0)", x.sheet(0), false);
            Checks.due("sheet(5)", x.sheet(5), false);
            Checks.due("sheet(-1)", x.sheet(-1), false);
            Checks.due("sheet(6)", x.sheet(6), false);
            for (int far : FAR) {
                Checks.due("sheet(" + far + ")", x.sheet(far), false);
            }
        });
    }

    private static void cellsInside() {
        for (int n = 1; n <= 4; n++) {
            Bench x = new Bench();
            x.sheet(n);
            for (int i = -1; i <= n; i++) {
                for (int k = -1; k <= n; k++) {
                    boolean inside = i >= 0 && k >= 0 && i < n && k < n;
                    int v = 10 * i + k + 1;
                    Checks.due("cell(" + i + ", " + k + ") of " + n, x.cell(i, k, v), inside);
                    Checks.due("cellOf(" + i + ", " + k + ") of " + n, x.cellOf(i, k), inside ? v : OUT);
                }
            }
            for (int i = 0; i < n; i++) {
                for (int k = 0; k < n; k++) {
                    Checks.due("cellOf(" + i + ", " + k + ") at the end", x.cellOf(i, k), 10 * i + k + 1);
                }
            }
        }
    }

    private static void cellsUpTo999() {
        Bench x = new Bench();
        x.sheet(2);
        int[] taken = {999, -999, 998, -998, 1, -1, 0};
        for (int v : taken) {
            Checks.due("cell(1, 0, " + v + ")", x.cell(1, 0, v), true);
            Checks.due("cellOf(1, 0)", x.cellOf(1, 0), v);
        }
        x.cell(1, 0, 5);
        int[] refused = {1000, -1000, Integer.MIN_VALUE, Integer.MAX_VALUE, 65536, -65536, OUT};
        for (int v : refused) {
            Checks.due("cell(1, 0, " + v + ")", x.cell(1, 0, v), false);
            Checks.due("cellOf(1, 0)", x.cellOf(1, 0), 5);
        }
    }

    private static void otherCells() {
        Bench x = Tables.busy();
        Checks.dueUnchanged(x, () -> {
            int[][] others = {{2, 0}, {0, 2}, {-1, 0}, {0, -1}, {2, 2}, {-1, -1}, {3, 0}, {0, 4}};
            for (int[] at : others) {
                Checks.due("cell(" + at[0] + ", " + at[1] + ", 9)", x.cell(at[0], at[1], 9), false);
            }
            for (int far : FAR) {
                Checks.due("cell(" + far + ", 0, 9)", x.cell(far, 0, 9), false);
                Checks.due("cell(0, " + far + ", 9)", x.cell(0, far, 9), false);
            }
            Checks.due("cell(1, 1, 1000)", x.cell(1, 1, 1000), false);
            Checks.due("cell(1, 1, -1000)", x.cell(1, 1, -1000), false);
        });
    }

    private static void cellOfInsideAndOutside() {
        Bench x = new Bench();
        x.write(new int[][] {{1, -2, 3}, {-4, 999, 6}, {7, -999, 9}});
        int[][] want = {{OUT, OUT, OUT, OUT, OUT}, {OUT, 1, -2, 3, OUT}, {OUT, -4, 999, 6, OUT}, {OUT, 7, -999, 9, OUT},
            {OUT, OUT, OUT, OUT, OUT}};
        for (int i = -1; i <= 3; i++) {
            for (int k = -1; k <= 3; k++) {
                Checks.due("cellOf(" + i + ", " + k + ")", x.cellOf(i, k), want[i + 1][k + 1]);
            }
        }
        for (int far : FAR) {
            Checks.due("cellOf(" + far + ", 0)", x.cellOf(far, 0), OUT);
            Checks.due("cellOf(0, " + far + ")", x.cellOf(0, far), OUT);
        }
    }

    private static void takeCopiesTheSheet() {
        for (int[][] table : Tables.OF_WAYS) {
            Bench x = new Bench();
            Checks.due("take()", x.take(table), 0);
            Checks.dueTable(x, 0, table);
            Checks.due("THE SHEET stays", x.told(1), table.length);
            Checks.due("THE SHEET stays", x.cellOf(table.length - 1, table.length - 1), 1);
            x.cell(0, 0, 2);
            Checks.due("the TABLE stays", x.table(0, 0, 0), 1);
            Checks.due("take() again", x.take(), 1);
            Checks.due("the next TABLE", x.table(1, 0, 0), 2);
        }
    }

    private static void takeUpTo20() {
        Bench x = Tables.busyWithLattices(19);
        Checks.due("told(0)", x.told(0), 19);
        Checks.due("the 20th", x.take(Tables.ONE), 19);
        Checks.due("told(0)", x.told(0), 20);
        Checks.dueUnchanged(x, () -> Checks.due("the 21st", x.take(), -1));
        Checks.due("the 21st of a sheet that isn't alike", x.take(new int[][] {{1, 2}, {3, 4}}), -1);
        Checks.due("the 21st of a flat sheet", x.take(new int[][] {{0}}), -1);
        Checks.due("told(0)", x.told(0), 20);
    }

    /** Each single place that differs from the one across, by 1. */
    private static void takeUnlike() {
        for (int n = 2; n <= 4; n++) {
            Bench x = Tables.busy();
            x.write(Tables.OF_WAYS[n - 1]);
            for (int i = 0; i < n; i++) {
                for (int k = 0; k < n; k++) {
                    if (i != k) {
                        x.cell(i, k, 1);
                        Checks.due("unlike at " + i + ", " + k, x.take(), -10 - Math.min(i, k));
                        x.cell(i, k, 0);
                    }
                }
            }
            Checks.due("unlike at none", x.take(), 4);
            x.cell(n - 2, n - 1, 1);
            Checks.dueUnchanged(x, () -> Checks.due("unlike at the last", x.take(), -10 - (x.told(1) - 2)));
        }
    }

    private static void takeFirstUnlike() {
        Bench x = new Bench();
        Checks.due("lines 0 and 1", x.take(new int[][] {{1, 1, 0}, {0, 1, 1}, {0, 0, 1}}), -10);
        Checks.due("lines 1 and 2", x.take(new int[][] {{1, 0, 0, 0}, {0, 1, 0, 1}, {0, 0, 1, 1}, {0, 0, 0, 1}}), -11);
        Checks.due("line 2", x.take(new int[][] {{1, 0, 0, 0}, {0, 1, 0, 0}, {0, 0, 1, 1}, {0, 0, 0, 1}}), -12);
        Checks.due("by a sign", x.take(new int[][] {{2, 1}, {-1, 2}}), -10);
        Checks.due("lines 0 and 2", x.take(new int[][] {{1, 0, 0, 1}, {0, 1, 0, 0}, {0, 0, 1, 1}, {0, 0, 0, 1}}), -10);
    }

    /** For each k the determinants before are 1, and this one is -1, 0 or 1. */
    private static void takeFlat() {
        int[][] chain = {{1, 1, 0, 0}, {1, 2, 1, 0}, {0, 1, 2, 1}, {0, 0, 1, 2}};
        for (int k = 1; k <= 4; k++) {
            Bench x = Tables.busy();
            x.sheet(k);
            for (int i = 0; i < k; i++) {
                for (int j = 0; j < k; j++) {
                    x.cell(i, j, chain[i][j]);
                }
            }
            int last = chain[k - 1][k - 1];
            Checks.dueUnchanged(x, () -> {
                int at = x.told(1) - 1;
                x.cell(at, at, last - 1);
                Checks.due("a determinant of 0 for " + (at + 1), x.take(), -21 - at);
                x.cell(at, at, last - 2);
                Checks.due("a determinant of -1 for " + (at + 1), x.take(), -21 - at);
                x.cell(at, at, last);
            });
            Checks.due("a determinant of 1 for " + k, x.take(), 4);
            Checks.due("WORTH", x.about(4, 1), 1);
        }
    }

    private static void takeFirstFlat() {
        Bench x = new Bench();
        Checks.due("1 and 2 are", x.take(new int[][] {{0, 1}, {1, 0}}), -21);
        Checks.due("1 is, 2 isn't", x.take(new int[][] {{-1, 0}, {0, -1}}), -21);
        Checks.due("2 is, 3 isn't", x.take(new int[][] {{1, 2, 0}, {2, 1, 0}, {0, 0, -1}}), -22);
        Checks.due("2 and 3 are", x.take(new int[][] {{1, 1, 0}, {1, 1, 0}, {0, 0, 1}}), -22);
        int[][] twoBelow = {{1, 0, 0, 0}, {0, 1, 0, 0}, {0, 0, -1, 0}, {0, 0, 0, -1}};
        Checks.due("3 is, 4 isn't", x.take(twoBelow), -23);
        Checks.due("3 and 4 are", x.take(new int[][] {{1, 0, 0, 0}, {0, 1, 0, 0}, {0, 0, 0, 1}, {0, 0, 1, 0}}), -23);
        Checks.due("noughts", x.take(new int[4][4]), -21);
        Checks.due("far below 0", x.take(new int[][] {{999, -999, 999, -999}, {-999, -999, 999, 999},
            {999, 999, -999, 999}, {-999, 999, 999, 999}}), -22);
        Checks.due("told(0)", x.told(0), 0);
    }

    private static void takeInOrder() {
        Bench x = new Bench();
        Checks.due("unlike in line 0 and flat", x.take(new int[][] {{0, 1}, {0, 0}}), -10);
        Checks.due("unlike in line 2 and flat at once",
            x.take(new int[][] {{-1, 0, 0, 0}, {0, 1, 0, 0}, {0, 0, 1, 1}, {0, 0, 2, 1}}), -12);
        x.fillUpTo(20);
        Checks.due("20, unlike and flat", x.take(new int[][] {{0, 1}, {0, 0}}), -1);
    }

    private static void tableInsideAndOutside() {
        Bench x = Checks.bench(Tables.OF_WAYS);
        for (int n = 1; n <= 4; n++) {
            for (int i = -1; i <= n; i++) {
                for (int k = -1; k <= n; k++) {
                    boolean inside = i >= 0 && k >= 0 && i < n && k < n;
                    Checks.due("table(" + (n - 1) + ", " + i + ", " + k + ")", x.table(n - 1, i, k),
                        inside ? i == k ? 1 : 0 : OUT);
                }
            }
        }
        for (int far : FAR) {
            Checks.due("table(" + far + ", 0, 0)", x.table(far, 0, 0), OUT);
            Checks.due("table(3, " + far + ", 0)", x.table(3, far, 0), OUT);
            Checks.due("table(3, 0, " + far + ")", x.table(3, 0, far), OUT);
        }
        Checks.due("table(4, 0, 0)", x.table(4, 0, 0), OUT);
        Checks.due("table(-1, 0, 0)", x.table(-1, 0, 0), OUT);
        int[][] wide = {{999, 998}, {998, 999}};
        Bench y = Checks.bench(wide);
        Checks.dueTable(y, 0, wide);
    }

    private static void aboutFrom0To6() {
        Bench x = Checks.bench(Tables.D4);
        long[] want = {-1, 4, 4, 1, 2, 24, 1, 1152, -1};
        for (int what = -1; what <= 7; what++) {
            Checks.due("about(0, " + what + ")", x.about(0, what), want[what + 1]);
            Checks.due("about(-1, " + what + ")", x.about(-1, what), -1);
            Checks.due("about(1, " + what + ")", x.about(1, what), -1);
        }
        for (int far : FAR) {
            Checks.due("about(0, " + far + ")", x.about(0, far), -1);
            Checks.due("about(" + far + ", 0)", x.about(far, 0), -1);
        }
    }

    private static void aboutSpentByRows() {
        Checks.due("the model's ROWS", Model.countUpTo(Tables.ROWS_1000, 101), 1000);
        Checks.due("the model's ROWS", Model.countUpTo(Tables.ROWS_1002, 101), 1002);
        Checks.due("the model's box is narrow", Model.boxUpTo(Tables.ROWS_1002, 101) <= 300000, true);
        Bench x = Checks.bench(Tables.ROWS_1000, Tables.ROWS_1002);
        dueFacts(x, 0, 3, 19, 0, 1, 2, 0);
        dueFacts(x, 1, 3, 18, 0, -2, -2, -2);
    }

    private static void dueFacts(Bench x, int lattice, long... want) {
        for (int what = 0; what < want.length; what++) {
            Checks.due("about(" + lattice + ", " + what + ")", x.about(lattice, what), want[what]);
        }
    }

    private static void aboutSpentByBox() {
        Checks.due("the model's box", Model.boxUpTo(Tables.BOX_299997, 12), 299997);
        Checks.due("the model's box", Model.boxUpTo(Tables.BOX_300001, 3), 300001);
        Bench x = Checks.bench(Tables.BOX_299997, Tables.BOX_300001);
        dueFacts(x, 0, 3, 4, 1, 2, 12, 1);
        dueFacts(x, 1, 4, 10, 0, -2, -2, -2);
    }

    /** Wherever the least number stands; of the last tables ROWS up to any other number across are SPENT. */
    private static void aboutByTheLeastNumber() {
        int[][] first = {{1, 0, 0}, {0, 999, 0}, {0, 0, 998}};
        int[][] second = {{999, 0, 0}, {0, 1, 0}, {0, 0, 998}};
        int[][] third = {{999, 0, 0}, {0, 998, 0}, {0, 0, 1}};
        int[][] two = {{233, 1}, {1, 1}};
        int[][] fourth = {{50, 0, 0, 7}, {0, 50, 0, 0}, {0, 0, 50, 0}, {7, 0, 0, 1}};
        Bench x = Checks.bench(first, second, third, two, fourth);
        for (int a = 0; a < 5; a++) {
            Checks.due("about(" + a + ", 3)", x.about(a, 3), 1);
            Checks.due("about(" + a + ", 4)", x.about(a, 4), a == 4 ? 4 : 2);
        }
        for (int at = 0; at < 4; at++) {
            int[][] table = Tables.withShortLine(at);
            Bench y = Checks.bench(table);
            Checks.due("ROWS up to 14 are SPENT", y.rows(0, 14), -2);
            dueFacts(y, 0, 4, 1, 0, 1, 8, 0);
        }
    }

    private static void turnsSpent() {
        int[][] flat = {{999, 0, 0}, {0, 1, 0}, {0, 0, 1}};
        Bench x = Checks.bench(flat, Tables.MORE_BENT, Tables.D4);
        Checks.due("TURNS, by ROWS", x.about(0, 6), -2);
        Checks.due("MIN all the same", x.about(0, 3), 1);
        Checks.due("KISS all the same", x.about(0, 4), 4);
        Checks.due("TURNS, by a box", x.about(1, 6), -2);
        Checks.due("TURNS by its other facts", x.about(1, 3), -2);
        Checks.due("WORTH all the same", x.about(1, 1), 1);
        Checks.due("TURNS", x.about(2, 6), 1152);
    }

    private static void aboutChangesNothing() {
        Bench x = Tables.busy();
        Checks.dueUnchanged(x, () -> {
            for (int what = -1; what <= 7; what++) {
                x.about(0, what);
                x.about(4, what);
            }
        });
        Bench spent = Checks.bench(Tables.MORE_BENT, Tables.ONE);
        spent.rows(1, 4);
        Checks.dueUnchanged(spent, () -> {
            for (int what = 3; what <= 6; what++) {
                Checks.due("about(0, " + what + ")", spent.about(0, what), -2);
            }
        });
    }

    /** 1 and 1000000 are SIZES, 0 and 1000001 are not. */
    private static void rowsOfSizes() {
        Bench x = Checks.bench(Tables.ONE, new int[][] {{100}}, new int[][] {{2}});
        Checks.due("rows(0, 1)", x.rows(0, 1), 2);
        Checks.due("rows(0, 2)", x.rows(0, 2), 2);
        Checks.due("rows(2, 1)", x.rows(2, 1), 0);
        Checks.due("rows(0, 0)", x.rows(0, 0), -1);
        Checks.due("rows(1, 1000000)", x.rows(1, 1000000), 200);
        Checks.due("size(199)", x.size(199), 1000000);
        Checks.due("rows(1, 999999)", x.rows(1, 999999), 198);
        Checks.due("rows(1, 1000001)", x.rows(1, 1000001), -1);
        Checks.due("told(2)", x.told(2), 198);
    }

    private static void rowsBecomeTheList() {
        Bench x = Checks.bench(new int[][] {{5}}, Tables.SQUARE);
        Checks.due("rows(0, 5)", x.rows(0, 5), 2);
        Checks.dueList(x, new int[][] {{-1}, {1}});
        Checks.due("more", x.rows(1, 1), 4);
        Checks.dueList(x, new int[][] {{-1, 0}, {0, -1}, {0, 1}, {1, 0}});
        Checks.due("less", x.rows(0, 5), 2);
        Checks.dueList(x, new int[][] {{-1}, {1}});
        Checks.due("row(2, 0)", x.row(2, 0), OUT);
        Checks.due("row(1, 1)", x.row(1, 1), OUT);
        Checks.due("none", x.rows(0, 4), 0);
        Checks.due("told(2)", x.told(2), 0);
        Checks.due("row(0, 0)", x.row(0, 0), OUT);
        Checks.due("size(0)", x.size(0), -1);
    }

    private static void rowsRefused() {
        Bench x = Tables.busy();
        Checks.dueUnchanged(x, () -> {
            Checks.due("rows(0, 0)", x.rows(0, 0), -1);
            Checks.due("rows(0, -1)", x.rows(0, -1), -1);
            Checks.due("rows(0, 1000001)", x.rows(0, 1000001), -1);
            Checks.due("rows(-1, 1)", x.rows(-1, 1), -1);
            Checks.due("rows(4, 1)", x.rows(4, 1), -1);
            for (int far : FAR) {
                Checks.due("rows(" + far + ", 1)", x.rows(far, 1), -1);
            }
            Checks.due("rows(0, least)", x.rows(0, Integer.MIN_VALUE), -1);
            Checks.due("rows(0, greatest)", x.rows(0, Integer.MAX_VALUE), -1);
        });
    }

    private static void rowsSpent() {
        Bench x = Checks.bench(Tables.ROWS_1000, Tables.ROWS_1002, Tables.BOX_299997, Tables.BOX_300001, Tables.ONE);
        Checks.due("1,000 ROWS", x.rows(0, 101), 1000);
        Checks.due("a box of 299,997", x.rows(2, 12), 86);
        Checks.due("two ROWS", x.rows(4, 1), 2);
        Checks.due("1,002 ROWS", x.rows(1, 101), -2);
        Checks.due("a box of 300,001", x.rows(3, 3), -2);
        Checks.due("1,000 ROWS of one way", x.theta(4, 250000), 2);
        Checks.due("the greatest SIZE", x.rows(4, 1000000), -2);
        Checks.dueList(x, new int[][] {{-1}, {1}});
    }

    private static void thetaOfJustASize() {
        Bench x = Checks.bench(Tables.ONE, new int[][] {{3, 1}, {1, 5}}, new int[][] {{100}}, Tables.ROWS_1000);
        int[] want = {0, 0, 2, 0, 2, 2, 0, 0, 0, 2};
        for (int size = 1; size <= want.length; size++) {
            Checks.due("theta(1, " + size + ")", x.theta(1, size), want[size - 1]);
        }
        Checks.due("theta(0, 1)", x.theta(0, 1), 2);
        Checks.due("theta(0, 2)", x.theta(0, 2), 0);
        Checks.due("theta(2, 1000000)", x.theta(2, 1000000), 2);
        Checks.due("theta(2, 999999)", x.theta(2, 999999), 0);
        Checks.due("theta(0, 250000), the last of 1,000", x.theta(0, 250000), 2);
        Checks.due("theta(0, 251000)", x.theta(0, 251000), 0);
        Checks.due("theta(0, 251001), one beyond 1,000", x.theta(0, 251001), -2);
        int last = Model.countUpTo(Tables.ROWS_1000, 101) - Model.countUpTo(Tables.ROWS_1000, 100);
        Checks.due("theta(3, 101)", x.theta(3, 101), last);
    }

    private static void thetaRefused() {
        Bench x = Checks.bench(Tables.ONE, Tables.MORE_BENT, Tables.ROWS_1002, Tables.BOX_300001);
        x.rows(0, 1);
        Checks.dueUnchanged(x, () -> {
            Checks.due("theta(0, 0)", x.theta(0, 0), -1);
            Checks.due("theta(0, -1)", x.theta(0, -1), -1);
            Checks.due("theta(0, 1000001)", x.theta(0, 1000001), -1);
            Checks.due("theta(0, 1000000)", x.theta(0, 1000000), -2);
            Checks.due("theta(-1, 1)", x.theta(-1, 1), -1);
            Checks.due("theta(4, 1)", x.theta(4, 1), -1);
            for (int far : FAR) {
                Checks.due("theta(" + far + ", 1)", x.theta(far, 1), -1);
            }
            Checks.due("a box of 300,001", x.theta(3, 3), -2);
            Checks.due("1,002 ROWS", x.theta(2, 101), -2);
            Checks.due("theta(1, 1)", x.theta(1, 1), 4);
            Checks.due("theta(0, 9)", x.theta(0, 9), 2);
        });
    }

    private static void rowInsideAndOutside() {
        Bench x = Checks.bench(Tables.OF_WAYS);
        for (int n = 1; n <= 4; n++) {
            int count = x.rows(n - 1, 1);
            for (int k = -1; k <= n; k++) {
                boolean inside = k >= 0 && k < n;
                Checks.due("row(-1, " + k + ")", x.row(-1, k), OUT);
                Checks.due("row(0, " + k + ")", x.row(0, k), inside ? k == 0 ? -1 : 0 : OUT);
                Checks.due("the last ROW's " + k, x.row(count - 1, k), inside ? k == 0 ? 1 : 0 : OUT);
                Checks.due("beyond the last, " + k, x.row(count, k), OUT);
            }
        }
        for (int far : FAR) {
            Checks.due("row(" + far + ", 0)", x.row(far, 0), OUT);
            Checks.due("row(0, " + far + ")", x.row(0, far), OUT);
        }
        Checks.due("rows(0, 250000)", x.rows(0, 250000), 1000);
        Checks.due("row(999, 0)", x.row(999, 0), 500);
        Checks.due("row(998, 0)", x.row(998, 0), -500);
        Checks.due("row(1000, 0)", x.row(1000, 0), OUT);
        Checks.due("one ROW", x.nearest(0, 1, 6000), 1);
        Checks.due("row(0, 0)", x.row(0, 0), 6000);
        Checks.due("row(1, 0)", x.row(1, 0), OUT);
        Checks.due("row(0, 1)", x.row(0, 1), OUT);
    }

    private static void sizeInsideAndOutside() {
        Bench x = Checks.bench(Tables.ONE, Tables.HEXAGON);
        Checks.due("size(0) of an empty LIST", x.size(0), -1);
        Checks.due("rows(1, 6)", x.rows(1, 6), 12);
        long[] want = {-1, 2, 2, 2, 2, 2, 2, 6, 6, 6, 6, 6, 6, -1};
        for (int i = -1; i <= 12; i++) {
            Checks.due("size(" + i + ")", x.size(i), want[i + 1]);
        }
        for (int far : FAR) {
            Checks.due("size(" + far + ")", x.size(far), -1);
        }
        Checks.due("rows(0, 250000)", x.rows(0, 250000), 1000);
        Checks.due("size(999)", x.size(999), 250000);
        Checks.due("size(1000)", x.size(1000), -1);
    }

    private static void sizeOfNearest() {
        Bench x = Checks.bench(Tables.ONE, Tables.HEXAGON, Tables.GREATEST);
        x.nearest(0, 60, 29);
        Checks.due("29 of 60", x.size(0), 29 * 29);
        x.nearest(0, 60, 30);
        Checks.due("30 of 60", x.size(0), 900);
        Checks.due("30 of 60, the other one", x.size(1), 900);
        Checks.due("beyond", x.size(2), -1);
        x.nearest(0, 60, 31);
        Checks.due("31 of 60", x.size(0), 29 * 29);
        x.nearest(0, 1, -6000);
        Checks.due("a ROW itself", x.size(0), 0);
        x.nearest(1, 60, 31, 7);
        Checks.due("31, 7 of 60", x.size(0), 2 * 31 * 31 - 2 * 31 * 7 + 2 * 7 * 7);
        x.nearest(2, 60, 5970, -5970, 30, -30);
        Checks.due("the greatest", x.size(15), 4L * 999 * 900);
    }
}
