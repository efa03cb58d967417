/**
 * The boundary cases that the document's Terms name, parts I and II, and the one of 'What it is'. Each test's name is
 * the part and the sentence; the model tells whether an example lies just where the test wants it.
 */
public final class SphereBenchTerms {
    public static void main(String[] args) {
        whatItIs();
        lattices();
        rowsUpToASize();
        reduced();
        theSearch();
        perfectAndDenser();
        nearest();
        Checks.end();
    }

    private static void whatItIs() {
        Checks.test("What it is: at most 512 calls", SphereBenchTerms::the512thCallAnswers);
    }

    private static void lattices() {
        Checks.test("I: LATTICES 0 .. 19", SphereBenchTerms::latticesFrom0To19);
        Checks.test("I: each of 1 to 4 WAYS n", SphereBenchTerms::from1To4Ways);
        Checks.test("I: whole numbers, alike across, -999 to 999", SphereBenchTerms::numbersUpTo999);
        Checks.test("I: ROWS are n whole numbers", SphereBenchTerms::rowsOfNNumbers);
        Checks.test("I: the SIZE of x is x by TABLE by x (all products together)", SphereBenchTerms::sizes);
        Checks.test("I: the MEETING of x and y: x by TABLE by y", SphereBenchTerms::meetings);
        Checks.test("I: WORTH: the TABLE's determinant", SphereBenchTerms::worthFromLeastToGreatest);
        Checks.test("I: EVEN: all numbers across (i, i) are even", SphereBenchTerms::evenOnlyIfAllAre);
        Checks.test("I: MIN is the least SIZE of a ROW that isn't noughts", SphereBenchTerms::minFromLeastToGreatest);
        Checks.test("I: STEPS are the ROWS of that SIZE, KISS how many", SphereBenchTerms::kissFromLeastToGreatest);
        Checks.test("I: LINES of a TABLE stand for the ROWS 1 0 .., 0 1 0 ..", SphereBenchTerms::linesAreRows);
        Checks.test("I: THE SHEET: 1 to 4 lines of as many whole numbers, -999 to 999", SphereBenchTerms::sheets);
        Checks.test("I: A WAY from a to b: n ROWS of a, MEETING as b's TABLE", SphereBenchTerms::waysLeadFromAToB);
    }

    private static void rowsUpToASize() {
        Checks.test("II: ROWS up to a SIZE s", SphereBenchTerms::rowsOfJustTheSize);
        Checks.test("II: (noughts not among them)", SphereBenchTerms::noughtsAreNotAmongThem);
        Checks.test("II: in the order of their SIZES", SphereBenchTerms::shorterRowsFirst);
        Checks.test("II: of like ones by their numbers, the lower first", SphereBenchTerms::lowerNumbersFirst);
        Checks.test("II: THE BOX: .. not above s times CO(i, i): just as much", SphereBenchTerms::boxHasItsEdge);
        Checks.test("II: THE BOX: .. not above s times CO(i, i): 1 above", SphereBenchTerms::boxEndsBehindItsEdge);
        Checks.test("II: THE BOX: .. it has all of them", SphereBenchTerms::boxHasAllRows);
        Checks.test("II: SPENT: THE BOX has more than 300,000 ROWS", SphereBenchTerms::boxUpTo300000);
        Checks.test("II: SPENT: THE BOX has more than 300,000 ROWS: far more", SphereBenchTerms::boxBeyondALong);
        Checks.test("II: SPENT: more than 1,000 ROWS up to the SIZE", SphereBenchTerms::rowsUpTo1000);
    }

    private static void reduced() {
        Checks.test("II: REDUCED: the WAY of doing nothing at first", SphereBenchTerms::nothingToReduce);
        Checks.test("II: REDUCED: the first pair i, k (i, then k, the lower first)", SphereBenchTerms::firstPairFirst);
        Checks.test("II: REDUCED: i not k", SphereBenchTerms::oneRowHasNoPair);
        Checks.test("II: REDUCED: t the whole number nearest to MEETING by SIZE", SphereBenchTerms::nearestTimes);
        Checks.test("II: REDUCED: a half towards 0", SphereBenchTerms::halfTowardsNought);
        Checks.test("II: REDUCED: until there is none", SphereBenchTerms::reducedToTheEnd);
        Checks.test("II: REDUCED: by SIZES, the shorter ROWS first", SphereBenchTerms::reducedBySizes);
        Checks.test("II: REDUCED: of like ones as they stand", SphereBenchTerms::likeOnesAsTheyStand);
    }

    private static void theSearch() {
        Checks.test("II: THE SEARCH: same(): the first one that is found", SphereBenchTerms::firstWayIsFound);
        Checks.test("II: THE SEARCH: turns(): all, from a to itself", SphereBenchTerms::allTurns);
        Checks.test("II: THE SEARCH: up to the greatest such SIZE", SphereBenchTerms::upToTheGreatestSize);
        Checks.test("II: THE SEARCH: of unlike WORTH there is none", SphereBenchTerms::unlikeWorth);
        Checks.test("II: THE SEARCH: SPENT: ROWS up to that SIZE are: by ROWS", SphereBenchTerms::searchAmong1000Rows);
        Checks.test("II: THE SEARCH: SPENT: ROWS up to that SIZE are: by box", SphereBenchTerms::searchInABox);
        Checks.test("II: THE SEARCH: a TRY beyond the 200,000th: same()", SphereBenchTerms::triesUntilOneIsFound);
        Checks.test("II: THE SEARCH: a TRY beyond the 200,000th: turns()", SphereBenchTerms::triesOfTurns);
    }

    private static void perfectAndDenser() {
        Checks.test("II: PERFECT: n * (n + 1) / 2 among them", SphereBenchTerms::perfectByJustEnough);
        Checks.test("II: DENSER: of two of like n", SphereBenchTerms::denserOfLikeWays);
        Checks.test("II: DENSER: MIN to the power of n, by WORTH, is greater", SphereBenchTerms::denserByVeryLittle);
    }

    private static void nearest() {
        Checks.test("II: NEAREST: the least SIZE", SphereBenchTerms::nearestOnly);
        Checks.test("II: NEAREST: told by rising numbers", SphereBenchTerms::nearestByRisingNumbers);
        Checks.test("II: THEIR BOX: r(i): a half upwards", SphereBenchTerms::halfUpwards);
        Checks.test("II: THEIR BOX: not above g * CO(i, i): just as much", SphereBenchTerms::theirBoxHasItsEdge);
        Checks.test("II: THEIR BOX: not above g * CO(i, i): 1 above", SphereBenchTerms::theirBoxEndsBehindItsEdge);
        Checks.test("II: NEAREST: SPENT: more than 300,000 ROWS", SphereBenchTerms::theirBoxUpTo300000);
        Checks.test("II: NEAREST: SPENT: more than 100 ROWS are NEAREST", SphereBenchTerms::mostThatAreNearest);
    }

    private static void the512thCallAnswers() {
        Bench x = Checks.bench(Tables.D4, Tables.MORE_BENT, new int[][] {{999}});
        Checks.due("reduce(1)", x.reduce(1), 3);
        while (x.left() > 3) {
            Checks.due("about(0, 6)", x.about(0, 6), 1152);
        }
        Checks.due("the 510th call, rows(0, 6)", x.rows(0, 6), 144);
        Checks.due("the 511th call, take()", x.take(), 4);
        Checks.due("the 512th call, size(143)", x.size(143), 6);
        Checks.due("calls that are left", x.left(), 0);
    }

    private static void latticesFrom0To19() {
        Bench x = new Bench();
        for (int a = 0; a < 20; a++) {
            Checks.due("take()", x.take(), a);
        }
        Checks.due("take() of one more", x.take(), -1);
        dueLattice(x, 0);
        dueLattice(x, 19);
        Checks.dueNoLattice(x, -1);
        Checks.dueNoLattice(x, 20);
        Bench less = Checks.bench(Tables.ONE, Tables.ONE);
        dueLattice(less, 1);
        Checks.dueNoLattice(less, 2);
        for (int far : Checks.FAR) {
            Checks.dueNoLattice(less, far);
        }
    }

    private static void dueLattice(Bench x, int a) {
        Checks.due("table(" + a + ", 0, 0)", x.table(a, 0, 0), 1);
        Checks.due("about(" + a + ", 0)", x.about(a, 0), 1);
        Checks.due("rows(" + a + ", 1)", x.rows(a, 1), 2);
        Checks.due("theta(" + a + ", 1)", x.theta(a, 1), 2);
        Checks.due("same(" + a + ", " + a + ")", x.same(a, a), 1);
        Checks.due("denser(" + a + ", " + a + ")", x.denser(a, a), 0);
        Checks.due("nearest(" + a + ", 1, 0, 0, 0, 0)", x.nearest(a, 1, 0), 1);
    }

    private static void from1To4Ways() {
        Bench x = Checks.bench(Tables.ONE, Tables.SQUARE, Tables.CUBE, Tables.CUBE4);
        for (int n = 1; n <= 4; n++) {
            int a = n - 1;
            Checks.due("about(" + a + ", 0)", x.about(a, 0), n);
            Checks.due("table(" + a + ", n - 1, n - 1)", x.table(a, n - 1, n - 1), 1);
            Checks.due("table(" + a + ", n, n)", x.table(a, n, n), Checks.OUT);
            Checks.due("rows(" + a + ", 1)", x.rows(a, 1), 2 * n);
            Checks.due("TURNS", x.about(a, 6), new int[] {2, 8, 48, 384}[a]);
        }
        Checks.due("a sheet of no line", x.sheet(0), false);
        Checks.due("a sheet of five lines", x.sheet(5), false);
        Checks.due("a sum of five ways", x.sum(3, 0), -1);
    }

    /** Beside 999 there can't be more than 998 across, or a determinant would be 0. */
    private static void numbersUpTo999() {
        int[][] most = {{999, 998}, {998, 999}};
        int[][] least = {{999, -998}, {-998, 999}};
        Bench x = Checks.bench(most, least, new int[][] {{999}}, Tables.ONE);
        Checks.dueTable(x, 0, most);
        Checks.dueTable(x, 1, least);
        Checks.dueTable(x, 2, new int[][] {{999}});
        Checks.due("999 beside 999", x.take(new int[][] {{999, 999}, {999, 999}}), -22);
        Checks.due("-999 beside 999", x.take(new int[][] {{999, -999}, {-999, 999}}), -22);
        Checks.due("1000 on the sheet", x.cell(0, 0, 1000), false);
        Checks.due("-1000 on the sheet", x.cell(0, 0, -1000), false);
        Checks.due("1000 times 1", x.scale(3, 1000), -1);
        Checks.due("999 times 1", x.scale(3, 999), 4);
        Checks.due("2 times 999", x.scale(2, 2), -1);
    }

    private static void rowsOfNNumbers() {
        Bench x = Checks.bench(Tables.ONE, Tables.SQUARE, Tables.CUBE, Tables.CUBE4);
        for (int n = 1; n <= 4; n++) {
            x.rows(n - 1, 1);
            Checks.due("row(0, 0) of " + n, x.row(0, 0), -1);
            Checks.due("row(0, n - 1) of " + n, x.row(0, n - 1), n == 1 ? -1 : 0);
            Checks.due("row(0, n) of " + n, x.row(0, n), Checks.OUT);
        }
    }

    private static void sizes() {
        Bench x = Checks.bench(new int[][] {{5, 2, -1, 3}, {2, 6, 1, -2}, {-1, 1, 7, 2}, {3, -2, 2, 8}},
            new int[][] {{100}});
        Checks.due("nearest to 1 2 3 4 by 60", x.nearest(0, 60, 1, 2, 3, 4), 1);
        int size = 5 + 6 * 4 + 7 * 9 + 8 * 16 + 2 * (2 * 2 - 3 + 3 * 4 + 6 - 2 * 8 + 2 * 12);
        Checks.due("the SIZE of -1 -2 -3 -4", x.size(0), size);
        x.rows(0, 8);
        for (int i = 0; i < x.told(2); i++) {
            long a = x.row(i, 0);
            long b = x.row(i, 1);
            long c = x.row(i, 2);
            long d = x.row(i, 3);
            Checks.due("size(" + i + ")", x.size(i), 5 * a * a + 6 * b * b + 7 * c * c + 8 * d * d
                + 2 * (2 * a * b - a * c + 3 * a * d + b * c - 2 * b * d + 2 * c * d));
        }
        Checks.due("rows up to the greatest SIZE", x.rows(1, 1000000), 200);
        Checks.due("the greatest SIZE", x.size(199), 1000000);
    }

    private static void meetings() {
        Bench x = Checks.bench(new int[][] {{5, 2, -1}, {2, 6, 1}, {-1, 1, 7}});
        x.write(new int[][] {{1, 0, 2}, {0, -1, 1}, {3, 1, 0}});
        Checks.due("within(0)", x.within(0), 1);
        Checks.dueTable(x, 1, new int[][] {{29, 9, 13}, {9, 11, -14}, {13, -14, 63}});
    }

    private static void worthFromLeastToGreatest() {
        int[][] close = {{999, 998}, {998, 999}};
        int[][] chain = {{1, 1, 0, 0}, {1, 2, 1, 0}, {0, 1, 2, 1}, {0, 0, 1, 2}};
        Bench x = Checks.bench(Tables.ONE, chain, close, Tables.GREATEST, Tables.D4);
        long[] want = {1, 1, 1997, 999L * 999 * 999 * 999, 4};
        for (int a = 0; a < want.length; a++) {
            Checks.due("about(" + a + ", 1)", x.about(a, 1), want[a]);
        }
    }

    private static void evenOnlyIfAllAre() {
        for (int n = 1; n <= 4; n++) {
            int[][] table = new int[n][n];
            for (int i = 0; i < n; i++) {
                for (int k = 0; k < n; k++) {
                    table[i][k] = i == k ? 4 : 1;
                }
            }
            Bench x = Checks.bench(table);
            Checks.due("all even, odd ones beside", x.about(0, 2), 1);
            for (int odd = 0; odd < n; odd++) {
                table[odd][odd] = 5;
                Checks.due("take()", x.take(table), odd + 1);
                Checks.due("odd at " + odd + " of " + n, x.about(odd + 1, 2), 0);
                table[odd][odd] = 4;
            }
        }
    }

    private static void minFromLeastToGreatest() {
        int[][] first = {{2, 0, 0}, {0, 3, 0}, {0, 0, 3}};
        int[][] second = {{3, 0, 0}, {0, 2, 0}, {0, 0, 3}};
        int[][] third = {{3, 0, 0}, {0, 3, 0}, {0, 0, 2}};
        int[][] close = {{999, 998}, {998, 999}};
        Bench x = Checks.bench(Tables.ONE, first, second, third, Tables.BENT, close, Tables.GREATEST);
        long[] want = {1, 2, 2, 2, 1, 2, 999};
        for (int a = 0; a < want.length; a++) {
            Checks.due("about(" + a + ", 3)", x.about(a, 3), want[a]);
        }
    }

    private static void kissFromLeastToGreatest() {
        int[][] tetrahedra = {{2, -1, 0}, {-1, 2, -1}, {0, -1, 2}};
        int[][] one = {{1, 0, 0, 0}, {0, 2, 0, 0}, {0, 0, 2, 0}, {0, 0, 0, 2}};
        Bench x = Checks.bench(Tables.ONE, Tables.SQUARE, Tables.HEXAGON, Tables.CUBE, tetrahedra, Tables.CUBE4,
            Tables.D4, one);
        long[] want = {2, 4, 6, 6, 12, 8, 24, 2};
        for (int a = 0; a < want.length; a++) {
            Checks.due("about(" + a + ", 4)", x.about(a, 4), want[a]);
        }
    }

    private static void linesAreRows() {
        int[][] table = {{5, 2, -1, 3}, {2, 6, 1, -2}, {-1, 1, 7, 2}, {3, -2, 2, 8}};
        Bench x = Checks.bench(table);
        x.write(Tables.CUBE4);
        Checks.due("within(0) by ROWS 1 0 .., 0 1 0 ..", x.within(0), 1);
        Checks.dueTable(x, 1, table);
        x.write(new int[][] {{0, 0, 0, 1}, {1, 0, 0, 0}, {0, 1, 0, 0}, {0, 0, 1, 0}});
        Checks.due("within(0) by the same ROWS, the last first", x.within(0), 2);
        Checks.dueTable(x, 2, new int[][] {{8, 3, -2, 2}, {3, 5, 2, -1}, {-2, 2, 6, 1}, {2, -1, 1, 7}});
    }

    private static void sheets() {
        Bench x = new Bench();
        for (int n = 1; n <= 4; n++) {
            Checks.due("sheet(" + n + ")", x.sheet(n), true);
            Checks.due("999 at the last of " + n, x.cell(n - 1, n - 1, 999), true);
            Checks.due("-999 at the first of " + n, x.cell(0, 0, -999), true);
            Checks.due("1000", x.cell(n - 1, n - 1, 1000), false);
            Checks.due("-1000", x.cell(0, 0, -1000), false);
            Checks.due("a line more than " + n, x.cell(n, 0, 1), false);
            Checks.due("a number more than " + n, x.cell(0, n, 1), false);
            Checks.due("cellOf(0, 0)", x.cellOf(0, 0), -999);
            Checks.due("cellOf(n - 1, n - 1)", x.cellOf(n - 1, n - 1), n == 1 ? -999 : 999);
        }
        Checks.due("sheet(0)", x.sheet(0), false);
        Checks.due("sheet(5)", x.sheet(5), false);
    }

    private static void waysLeadFromAToB() {
        Bench x = Checks.bench(Tables.SQUARE, Tables.BENT);
        Checks.due("same(0, 1)", x.same(0, 1), 1);
        Checks.dueMeetings(x, Tables.SQUARE, Tables.BENT);
        Checks.due("ROW 1 of a has b's first SIZE", (long) x.way(0, 0) * x.way(0, 0)
            + (long) x.way(0, 1) * x.way(0, 1), 89);
        Checks.due("same(1, 0)", x.same(1, 0), 1);
        Checks.dueMeetings(x, Tables.BENT, Tables.SQUARE);
    }

    private static void rowsOfJustTheSize() {
        Bench x = Checks.bench(new int[][] {{3, 1}, {1, 5}});
        Checks.due("rows(0, 2), below the least", x.rows(0, 2), 0);
        Checks.due("rows(0, 3), just the least", x.rows(0, 3), 2);
        Checks.due("rows(0, 4)", x.rows(0, 4), 2);
        Checks.due("rows(0, 5), just the next", x.rows(0, 5), 4);
        Checks.due("size(3)", x.size(3), 5);
        Checks.due("told(2)", x.told(2), 4);
        Checks.due("rows(0, 6), just the sum", x.rows(0, 6), 6);
        Checks.due("rows(0, 9)", x.rows(0, 9), 6);
        Checks.due("rows(0, 10)", x.rows(0, 10), 8);
    }

    private static void noughtsAreNotAmongThem() {
        for (int[][] table : new int[][][] {Tables.ONE, Tables.SQUARE, Tables.CUBE, Tables.CUBE4}) {
            Bench x = Checks.bench(table);
            Checks.due("rows(0, 1)", x.rows(0, 1), 2 * table.length);
            for (int i = 0; i < 2 * table.length; i++) {
                Checks.due("size(" + i + ")", x.size(i), 1);
            }
        }
        Bench x = Checks.bench(new int[][] {{2}});
        Checks.due("rows(0, 1), noughts alone", x.rows(0, 1), 0);
        Checks.due("theta(0, 1)", x.theta(0, 1), 0);
    }

    private static void shorterRowsFirst() {
        Bench x = Checks.bench(new int[][] {{4, 0}, {0, 1}});
        x.rows(0, 9);
        Checks.dueList(x, new int[][] {{0, -1}, {0, 1}, {-1, 0}, {0, -2}, {0, 2}, {1, 0}, {-1, -1}, {-1, 1}, {1, -1},
            {1, 1}, {-1, -2}, {-1, 2}, {1, -2}, {1, 2}, {0, -3}, {0, 3}});
        long[] sizes = {1, 1, 4, 4, 4, 4, 5, 5, 5, 5, 8, 8, 8, 8, 9, 9};
        for (int i = 0; i < sizes.length; i++) {
            Checks.due("size(" + i + ")", x.size(i), sizes[i]);
        }
    }

    private static void lowerNumbersFirst() {
        Bench x = Checks.bench(Tables.CUBE4, new int[][] {{1}});
        x.rows(0, 2);
        for (int i = 1; i < x.told(2); i++) {
            boolean later = x.size(i - 1) < x.size(i);
            for (int k = 0; k < 4 && !later; k++) {
                int before = x.row(i - 1, k);
                int after = x.row(i, k);
                later = before < after;
                if (before > after) {
                    break;
                }
            }
            Checks.due("ROW " + i + " stands behind the one before it", later, true);
        }
        x.rows(0, 1);
        Checks.dueList(x, new int[][] {{-1, 0, 0, 0}, {0, -1, 0, 0}, {0, 0, -1, 0}, {0, 0, 0, -1}, {0, 0, 0, 1},
            {0, 0, 1, 0}, {0, 1, 0, 0}, {1, 0, 0, 0}});
    }

    /** A number whose square times WORTH is just as much takes the box beyond 300,000: SPENT, and not one SIZE less. */
    private static void boxHasItsEdge() {
        dueEdge(new int[][] {{314, 443}, {443, 625}}, 169, 300111);
        dueEdge(new int[][] {{74, 253}, {253, 865}}, 296, 300861);
        dueEdge(new int[][] {{10, -3, 58}, {-3, 2, -22}, {58, -22, 356}}, 57, 301875);
        dueEdge(new int[][] {{10, 87, 16}, {87, 854, 133}, {16, 133, 26}}, 16, 302625);
        dueEdge(new int[][] {{122, 27, -48}, {27, 6, -10}, {-48, -10, 36}}, 48, 309075);
        dueEdge(new int[][] {{18, 13, -4, 2}, {13, 19, -6, 7}, {-4, -6, 2, -3}, {2, 7, -3, 9}}, 4, 329375);
        dueEdge(new int[][] {{10, -6, 0, -13}, {-6, 14, 3, -1}, {0, 3, 1, -3}, {-13, -1, -3, 26}}, 9, 343413);
        dueEdge(new int[][] {{138, 198, 240, -290}, {198, 289, 364, -406}, {240, 364, 499, -464},
            {-290, -406, -464, 633}}, 75, 364815);
        dueEdge(new int[][] {{1, 3, 5, 14}, {3, 38, 22, 137}, {5, 22, 27, 94}, {14, 137, 94, 514}}, 28, 313635);
    }

    private static void dueEdge(int[][] table, int size, long box) {
        Bench x = Checks.bench(table);
        Checks.due("the model's box", Model.boxUpTo(table, size), box);
        Checks.due("the model's box of a SIZE less is narrow", Model.boxUpTo(table, size - 1) <= 300000, true);
        Checks.due("rows(0, " + size + ")", x.rows(0, size), -2);
        Checks.due("few ROWS, by a shorter table", x.rows(x.reduce(0), size) > 0, true);
        Checks.due("rows(0, " + (size - 1) + ")", x.rows(0, size - 1), Model.countUpTo(table, size - 1));
    }

    /** A number whose square times WORTH is 1 above would take the box beyond 300,000, were it counted. */
    private static void boxEndsBehindItsEdge() {
        dueInside(new int[][] {{754, 447}, {447, 265}}, 168, 299331, 516);
        dueInside(new int[][] {{265, 447}, {447, 754}}, 168, 299331, 516);
        dueInside(new int[][] {{1, 0, 0}, {0, 37, 191}, {0, 191, 986}}, 35, 289751, 894);
        dueInside(new int[][] {{130, -58, 307}, {-58, 27, -137}, {307, -137, 725}}, 24, 298809, 484);
        dueInside(new int[][] {{1, 0, -2}, {0, 17, 55}, {-2, 55, 182}}, 19, 298935, 364);
        dueInside(new int[][] {{1, 4, 2, 0}, {4, 21, 10, 4}, {2, 10, 5, 4}, {0, 4, 4, 33}}, 7, 293475, 296);
        dueInside(new int[][] {{1, -6, 4, -2}, {-6, 125, -32, 35}, {4, -32, 17, -10}, {-2, 35, -10, 10}}, 12, 297675,
            760);
        dueInside(new int[][] {{10, -30, -37, 10}, {-30, 100, 111, -27}, {-37, 111, 137, -37}, {10, -27, -37, 11}}, 12,
            280917, 760);
        dueInside(new int[][] {{10, -23, -30, 83}, {-23, 58, 67, -191}, {-30, 67, 91, -249}, {83, -191, -249, 689}}, 9,
            274911, 424);
    }

    private static void dueInside(int[][] table, int size, long box, int rows) {
        Bench x = Checks.bench(table);
        Checks.due("the model's box", Model.boxUpTo(table, size), box);
        Checks.due("rows(0, " + size + ")", x.rows(0, size), rows);
    }

    /** The same lattices by long and by short lines have as many ROWS up to each SIZE. */
    private static void boxHasAllRows() {
        Bench x = Checks.bench(Tables.SQUARE, Tables.BENT, Tables.CUBE4, Tables.withLongLine(1));
        for (int size = 1; size <= 316; size += 9) {
            Checks.due("rows(1, " + size + ")", x.rows(1, size), x.rows(0, size));
        }
        for (int size = 1; size <= 13; size++) {
            Checks.due("rows(3, " + size + ")", x.rows(3, size), x.rows(2, size));
            Checks.due("theta(3, " + size + ")", x.theta(3, size), x.theta(2, size));
        }
    }

    /** A box has an odd number of ROWS, noughts among them; no example of just 299,999 was found, but of 299,997. */
    private static void boxUpTo300000() {
        dueInside(new int[][] {{4, -23, 5}, {-23, 152, 2}, {5, 2, 55}}, 152, 299997, 958);
        dueInside(new int[][] {{138, -55, -20}, {-55, 66, 28}, {-20, 28, 12}}, 12, 299997, 86);
        dueInside(new int[][] {{11, 43, -11, -1}, {43, 610, -192, -23}, {-11, -192, 65, 8}, {-1, -23, 8, 1}}, 1,
            299997, 8);
        dueTooWide(new int[][] {{537, 666}, {666, 826}}, 676, 864);
        dueTooWide(new int[][] {{2, 22, 27}, {22, 284, 309}, {27, 309, 368}}, 40, 452);
        dueTooWide(new int[][] {{62, -115, -13, -102}, {-115, 324, 25, 166}, {-13, 25, 3, 24}, {-102, 166, 24, 202}},
            3, 18);
    }

    /** The box has 15,664,563,985,639,023,675 ROWS, which as a long would be below 0. */
    private static void boxBeyondALong() {
        int[][] table = {{58, 29, 20, 5}, {29, 57, -68, 27}, {20, -68, 157, -45}, {5, 27, -45, 15}};
        Bench x = Checks.bench(table);
        Checks.due("rows(0, 1000000)", x.rows(0, 1000000), -2);
        Checks.due("theta(0, 1000000)", x.theta(0, 1000000), -2);
        Checks.due("a few ROWS, by a shorter table", x.rows(x.reduce(0), 1), 8);
    }

    private static void dueTooWide(int[][] table, int size, int rows) {
        Bench x = Checks.bench(table);
        Checks.due("the model's box", Model.boxUpTo(table, size), 300001);
        Checks.due("rows(0, " + size + ")", x.rows(0, size), -2);
        Checks.due("theta(0, " + size + ")", x.theta(0, size), -2);
        Checks.due("as many, by a shorter table", x.rows(x.reduce(0), size), rows);
    }

    /** With a ROW there is always the one that points against it, so that 1,002 come after 1,000. */
    private static void rowsUpTo1000() {
        int[][] just = {{155, 126, 125}, {126, 105, 101}, {125, 101, 101}};
        int[][] beyond = {{101, -151, -115}, {-151, 227, 173}, {-115, 173, 132}};
        Bench x = Checks.bench(Tables.ONE, just, beyond, Tables.CUBE4);
        Checks.due("998 ROWS", x.rows(0, 249999), 998);
        Checks.due("1,000 ROWS, one of just that SIZE", x.rows(0, 250000), 1000);
        Checks.due("1,000 ROWS", x.rows(0, 251000), 1000);
        Checks.due("1,002 ROWS", x.rows(0, 251001), -2);
        Checks.due("the model's ROWS", Model.countUpTo(just, 101), 1000);
        Checks.due("1,000 ROWS of three ways", x.rows(1, 101), 1000);
        Checks.due("the model's ROWS", Model.countUpTo(beyond, 101), 1002);
        Checks.due("the model's box is narrow", Model.boxUpTo(beyond, 101) <= 300000, true);
        Checks.due("1,002 ROWS of three ways", x.rows(2, 101), -2);
        Checks.due("872 ROWS of four ways", x.rows(3, 13), 872);
        Checks.due("1,064 ROWS of four ways", x.rows(3, 14), -2);
        Checks.due("the LIST stays", x.told(2), 872);
    }

    private static void nothingToReduce() {
        Bench x = Checks.bench(Tables.HEXAGON, Tables.D4);
        Checks.due("reduce(0)", x.reduce(0), 2);
        Checks.dueWay(x, Tables.SQUARE);
        Checks.dueTable(x, 2, Tables.HEXAGON);
        Checks.due("reduce(1)", x.reduce(1), 3);
        Checks.dueWay(x, Tables.CUBE4);
        Checks.dueTable(x, 3, Tables.D4);
    }

    /** Another order of pairs, going on instead of beginning anew, or another half, leads each of these elsewhere. */
    private static void firstPairFirst() {
        Bench x = Checks.bench(new int[][] {{18, 36, 27}, {36, 97, 84}, {27, 84, 77}},
            new int[][] {{61, -15, 44}, {-15, 77, -42}, {44, -42, 45}},
            new int[][] {{5, 4, 12, 0}, {4, 52, -24, 42}, {12, -24, 52, -30}, {0, 42, -30, 70}},
            new int[][] {{37, -30, 27, -10}, {-30, 65, 10, 12}, {27, 10, 50, -15}, {-10, 12, -15, 25}});
        Checks.due("reduce(0)", x.reduce(0), 4);
        Checks.dueWay(x, new int[][] {{0, 1, -1}, {-1, 1, -1}, {-3, 3, -2}});
        Checks.dueTable(x, 4, new int[][] {{6, -3, -2}, {-3, 6, -2}, {-2, -2, 11}});
        Checks.due("reduce(1)", x.reduce(1), 5);
        Checks.dueWay(x, new int[][] {{16, -11, -26}, {-13, 9, 21}, {-1, 1, 2}});
        Checks.dueTable(x, 5, new int[][] {{1, 0, 0}, {0, 1, 0}, {0, 0, 4}});
        Checks.due("reduce(2)", x.reduce(2), 6);
        Checks.dueWay(x, new int[][] {{9, -2, -3, 0}, {-12, 3, 4, 0}, {-8, 2, 3, 0}, {-50, 11, 17, 1}});
        Checks.dueTable(x, 6, new int[][] {{1, 0, 0, 0}, {0, 4, 0, 2}, {0, 0, 4, -2}, {0, 2, -2, 18}});
        Checks.due("reduce(3)", x.reduce(3), 7);
        Checks.dueWay(x, new int[][] {{3, 2, -2, -1}, {-5, -3, 4, 2}, {-14, -9, 11, 5}, {-6, -4, 5, 3}});
        Checks.dueTable(x, 7, new int[][] {{6, 3, 1, 3}, {3, 6, 2, 3}, {1, 2, 6, -3}, {3, 3, -3, 9}});
    }

    private static void oneRowHasNoPair() {
        Bench x = Checks.bench(Tables.ONE, new int[][] {{999}});
        Checks.due("reduce(0)", x.reduce(0), 2);
        Checks.dueTable(x, 2, Tables.ONE);
        Checks.due("reduce(1)", x.reduce(1), 3);
        Checks.dueTable(x, 3, new int[][] {{999}});
        Checks.dueWay(x, Tables.ONE);
    }

    private static void nearestTimes() {
        dueTimes(5, 2, 0);
        dueTimes(5, 3, 1);
        dueTimes(5, 7, 1);
        dueTimes(5, 8, 2);
        dueTimes(5, -2, 0);
        dueTimes(5, -3, -1);
        dueTimes(5, -7, -1);
        dueTimes(5, -8, -2);
        dueTimes(1, 1, 1);
        dueTimes(1, -30, -30);
        dueTimes(2, 2, 1);
    }

    private static void halfTowardsNought() {
        dueTimes(2, 1, 0);
        dueTimes(2, -1, 0);
        dueTimes(2, 3, 1);
        dueTimes(2, -3, -1);
        dueTimes(2, 5, 2);
        dueTimes(2, -5, -2);
        dueTimes(4, 2, 0);
        dueTimes(4, 3, 1);
        dueTimes(4, -2, 0);
        dueTimes(4, -3, -1);
        dueTimes(4, 6, 1);
        dueTimes(4, -6, -1);
    }

    /** How often the first ROW is taken from a second one that stays the longer of the two. */
    private static void dueTimes(int size, int meeting, int times) {
        int[][] table = {{size, meeting}, {meeting, 950}};
        Bench x = Checks.bench(table);
        Checks.due("reduce(0) of " + size + ", " + meeting, x.reduce(0), 1);
        Checks.dueWay(x, new int[][] {{1, 0}, {-times, 1}});
        int rest = meeting - times * size;
        Checks.dueTable(x, 1, new int[][] {{size, rest}, {rest, 950 - 2 * times * meeting + times * times * size}});
    }

    private static void reducedToTheEnd() {
        int[][] bent = {{61, -15, 44}, {-15, 77, -42}, {44, -42, 45}};
        int[][] deep = {{37, -30, 27, -10}, {-30, 65, 10, 12}, {27, 10, 50, -15}, {-10, 12, -15, 25}};
        Bench x = Checks.bench(Tables.MORE_BENT, bent, deep);
        for (int a = 0; a < 3; a++) {
            int reduced = x.reduce(a);
            Checks.due("reduce(" + a + ")", reduced, 3 + 2 * a);
            Checks.due("REDUCED again", x.reduce(reduced), reduced + 1);
            Checks.dueWay(x, Tables.OF_WAYS[a + 1]);
        }
    }

    private static void reducedBySizes() {
        Bench x = Checks.bench(new int[][] {{4, 0, 0, 0}, {0, 3, 0, 0}, {0, 0, 2, 0}, {0, 0, 0, 1}},
            new int[][] {{3, 0}, {0, 2}}, new int[][] {{2, 0}, {0, 3}});
        x.reduce(0);
        Checks.dueWay(x, new int[][] {{0, 0, 0, 1}, {0, 0, 1, 0}, {0, 1, 0, 0}, {1, 0, 0, 0}});
        Checks.dueTable(x, 3, new int[][] {{1, 0, 0, 0}, {0, 2, 0, 0}, {0, 0, 3, 0}, {0, 0, 0, 4}});
        x.reduce(1);
        Checks.dueWay(x, new int[][] {{0, 1}, {1, 0}});
        x.reduce(2);
        Checks.dueWay(x, Tables.SQUARE);
    }

    private static void likeOnesAsTheyStand() {
        Bench x = Checks.bench(new int[][] {{5, 1, 0, 0}, {1, 5, 0, 2}, {0, 0, 4, 0}, {0, 2, 0, 5}},
            new int[][] {{7, 0, 1, 0}, {0, 6, 0, 2}, {1, 0, 7, 0}, {0, 2, 0, 6}});
        x.reduce(0);
        Checks.dueWay(x, new int[][] {{0, 0, 1, 0}, {1, 0, 0, 0}, {0, 1, 0, 0}, {0, 0, 0, 1}});
        x.reduce(1);
        Checks.dueWay(x, new int[][] {{0, 1, 0, 0}, {0, 0, 0, 1}, {1, 0, 0, 0}, {0, 0, 1, 0}});
    }

    private static void firstWayIsFound() {
        Bench x = Checks.bench(Tables.SQUARE, Tables.D4, Tables.HEXAGON, new int[][] {{2, 1}, {1, 2}});
        x.same(0, 0);
        Checks.dueWay(x, new int[][] {{-1, 0}, {0, -1}});
        x.same(1, 1);
        Checks.dueMeetings(x, Tables.D4, Tables.D4);
        Checks.dueWay(x, new int[][] {{-1, -2, -1, -1}, {0, 1, 0, 0}, {0, 0, 0, 1}, {0, 0, 1, 0}});
        x.same(2, 2);
        Checks.dueWay(x, new int[][] {{-1, -1}, {0, 1}});
        x.same(2, 3);
        Checks.dueWay(x, new int[][] {{-1, -1}, {-1, 0}});
    }

    private static void allTurns() {
        int[][] least = {{5, 1, 2}, {1, 7, 3}, {2, 3, 11}};
        Bench x = Checks.bench(Tables.ONE, Tables.SQUARE, Tables.HEXAGON, Tables.CUBE, Tables.CUBE4, Tables.D4, least);
        long[] want = {2, 8, 12, 48, 384, 1152, 2};
        for (int a = 0; a < want.length; a++) {
            Checks.due("about(" + a + ", 6)", x.about(a, 6), want[a]);
        }
    }

    /** What counts is the greatest number across of b's TABLE, wherever it stands. */
    private static void upToTheGreatestSize() {
        int[][] turned = {{610, 377}, {377, 233}};
        int[][] longFirst = {{5, 2, 0}, {2, 1, 0}, {0, 0, 1}};
        int[][] longSecond = {{1, 2, 0}, {2, 5, 0}, {0, 0, 1}};
        int[][] longThird = {{1, 0, 0}, {0, 1, 2}, {0, 2, 5}};
        Bench x = Checks.bench(Tables.SQUARE, Tables.MORE_BENT, turned, Tables.CUBE, longFirst, longSecond, longThird);
        Checks.due("ROWS of the squares up to 610 are too many", x.same(0, 1), -2);
        Checks.due("also where 610 stands first", x.same(0, 2), -2);
        Checks.due("ROWS of the other one up to 1 are few", x.same(1, 0), 1);
        for (int b = 4; b <= 6; b++) {
            Checks.due("same(3, " + b + ")", x.same(3, b), 1);
        }
        Checks.dueMeetings(x, Tables.CUBE, longThird);
        for (int at = 0; at < 4; at++) {
            int[][] table = Tables.withLongLine(at);
            Bench y = Checks.bench(Tables.CUBE4, table);
            Checks.due("10 at " + at, y.same(0, 1), 1);
            Checks.dueMeetings(y, Tables.CUBE4, table);
            Checks.due("10 at " + at, y.about(1, 6), 384);
        }
    }

    /** Nothing is tried: also where ROWS, or TRIES, would be SPENT. */
    private static void unlikeWorth() {
        int[][] more = {{233, 377}, {377, 611}};
        int[][] a = {{2, 0, 0, 0}, {0, 2, -1, 0}, {0, -1, 2, -1}, {0, 0, -1, 2}};
        int[][] b = {{22, -12, 2, 17}, {-12, 12, 4, -15}, {2, 4, 22, 0}, {17, -15, 0, 21}};
        Bench x = Checks.bench(Tables.SQUARE, Tables.MORE_BENT, more, new int[][] {{1, 0}, {0, 2}}, a, b);
        Checks.due("WORTH 1 and 234", x.same(1, 2), 0);
        Checks.due("WORTH 1 and 2, ROWS that are SPENT", x.same(1, 3), 0);
        Checks.due("WORTH 2 and 1, ROWS that are SPENT", x.same(3, 1), 0);
        Checks.due("WORTH 1 and 1, ROWS that are SPENT", x.same(0, 1), -2);
        Checks.due("WORTH 8 and another, TRIES that would be SPENT", x.same(4, 5), 0);
    }

    private static void searchAmong1000Rows() {
        int[][] just = {{122, 167, -60, 61}, {167, 266, -79, 78}, {-60, -79, 40, -39}, {61, 78, -39, 41}};
        int[][] beyond = {{130, 22, -28}, {22, 15, -8}, {-28, -8, 7}};
        Bench x = Checks.bench(just, beyond);
        Checks.due("the model's ROWS", Model.countUpTo(just, 266), 1000);
        Checks.due("TURNS among 1,000 ROWS", x.about(0, 6) > 0, true);
        Checks.due("same(0, 0) among 1,000 ROWS", x.same(0, 0), 1);
        Checks.due("the model's ROWS", Model.countUpTo(beyond, 130), 1002);
        Checks.due("the model's box is narrow", Model.boxUpTo(beyond, 130) <= 300000, true);
        Checks.due("TURNS among 1,002 ROWS", x.about(1, 6), -2);
        Checks.due("same(1, 1) among 1,002 ROWS", x.same(1, 1), -2);
    }

    private static void searchInABox() {
        int[][] narrow = {{4, -23, 5}, {-23, 152, 2}, {5, 2, 55}};
        int[][] wide = {{125, -3, -104}, {-3, 6, 14}, {-104, 14, 109}};
        Bench x = Checks.bench(narrow, wide);
        Checks.due("the model's box", Model.boxUpTo(narrow, 152), 299997);
        Checks.due("TURNS in a box of 299,997", x.about(0, 6) > 0, true);
        Checks.due("same(0, 0) in a box of 299,997", x.same(0, 0), 1);
        Checks.due("the model's box", Model.boxUpTo(wide, 125), 300015);
        Checks.due("TURNS in a box of 300,015", x.about(1, 6), -2);
        Checks.due("same(1, 1) in a box of 300,015", x.same(1, 1), -2);
    }

    private static void triesUntilOneIsFound() {
        int[][] a = {{2, 0, 0, 0}, {0, 2, -1, 0}, {0, -1, 2, -1}, {0, 0, -1, 2}};
        int[][] just = {{20, 0, -8, -6}, {0, 22, 18, 10}, {-8, 18, 22, 5}, {-6, 10, 5, 14}};
        int[][] beyond = {{22, -12, 2, 17}, {-12, 12, 4, -15}, {2, 4, 22, 0}, {17, -15, 0, 20}};
        Bench x = Checks.bench(a, just, beyond);
        Checks.due("the model's TRIES", Model.triesOf(a, just, true), 200000);
        Checks.due("a WAY by the 200,000th TRY", x.same(0, 1), 1);
        Checks.dueMeetings(x, a, just);
        Checks.due("the model's TRIES", Model.triesOf(a, beyond, true), 200001);
        Checks.due("a WAY by the 200,001st TRY", x.same(0, 2), -2);
        Checks.dueMeetings(x, a, just);
    }

    /** No example of just 200,000 was found, but of 199,998. */
    private static void triesOfTurns() {
        int[][] under = {{16, 4, -2, -13}, {4, 14, -14, 1}, {-2, -14, 16, -3}, {-13, 1, -3, 12}};
        int[][] over = {{22, 18, 20, 6}, {18, 22, 14, 9}, {20, 14, 20, 4}, {6, 9, 4, 4}};
        Bench x = Checks.bench(over, under);
        Checks.due("the model's TRIES", Model.triesOf(under, under, false), 199998);
        Checks.due("TURNS by 199,998 TRIES", x.about(1, 6), 96);
        Checks.due("the model's TRIES", Model.triesOf(over, over, false), 200004);
        Checks.due("TURNS by 200,004 TRIES", x.about(0, 6), -2);
    }

    /** One pair of STEPS less than enough, just enough, and more. */
    private static void perfectByJustEnough() {
        int[][] five = {{6, 1, -3}, {1, 6, -3}, {-3, -3, 6}};
        int[][] six = {{4, 2, 2}, {2, 4, 2}, {2, 2, 4}};
        int[][] nine = {{6, -3, 3, -2}, {-3, 6, -1, -1}, {3, -1, 6, 1}, {-2, -1, 1, 6}};
        int[][] ten = {{2, 1, -1, -1}, {1, 2, 0, 0}, {-1, 0, 2, 1}, {-1, 0, 1, 2}};
        Bench x = Checks.bench(Tables.ONE, Tables.SQUARE, Tables.HEXAGON, five, six, nine, ten, Tables.D4);
        long[] kiss = {2, 4, 6, 10, 12, 18, 20, 24};
        long[] perfect = {1, 0, 1, 0, 1, 0, 1, 1};
        for (int a = 0; a < kiss.length; a++) {
            Checks.due("about(" + a + ", 4)", x.about(a, 4), kiss[a]);
            Checks.due("about(" + a + ", 5)", x.about(a, 5), perfect[a]);
        }
    }

    private static void denserOfLikeWays() {
        Bench x = Checks.bench(Tables.ONE, new int[][] {{7}}, Tables.SQUARE, Tables.CUBE, Tables.CUBE4);
        Checks.due("all of one way are alike", x.denser(0, 1), 0);
        for (int a = 2; a <= 4; a++) {
            Checks.due("of unlike n", x.denser(a, a - 1 - (a == 2 ? 1 : 0)), -3);
            Checks.due("of unlike n", x.denser(a - 1 - (a == 2 ? 1 : 0), a), -3);
            Checks.due("with itself", x.denser(a, a), 0);
        }
    }

    /** The products that are held against one another are beyond a long here: 999 ^ 4 * 999 ^ 4. */
    private static void denserByVeryLittle() {
        int[][] alike = {{998, 0, 0, 0}, {0, 998, 0, 0}, {0, 0, 998, 0}, {0, 0, 0, 998}};
        int[][] little = {{999, 0, 0, 0}, {0, 999, 0, 0}, {0, 0, 999, 1}, {0, 0, 1, 999}};
        int[][] more = {{998, 0, 0, 0}, {0, 998, 0, 0}, {0, 0, 998, 1}, {0, 0, 1, 998}};
        Bench x = Checks.bench(Tables.GREATEST, alike, little, more, Tables.CUBE4, Tables.D4);
        Checks.due("alike", x.denser(0, 1), 0);
        Checks.due("alike", x.denser(4, 0), 0);
        Checks.due("by 1 of 999 ^ 2", x.denser(2, 0), 1);
        Checks.due("by 1 of 999 ^ 2", x.denser(0, 2), -1);
        Checks.due("by 1 of 998 ^ 2 and of 999 ^ 2", x.denser(3, 2), 1);
        Checks.due("by 1 of 998 ^ 2 and of 999 ^ 2", x.denser(2, 3), -1);
        Checks.due("the densest", x.denser(5, 3), 1);
        Checks.due("the densest", x.denser(3, 5), -1);
    }

    private static void nearestOnly() {
        Bench x = Checks.bench(Tables.ONE, Tables.SQUARE);
        int[][] places = {{29, 0, 0}, {30, 0, 1}, {31, 1, 1}, {-29, 0, 0}, {-30, -1, 0}, {-31, -1, -1}, {60, 1, 1},
            {0, 0, 0}, {-60, -1, -1}};
        for (int[] place : places) {
            boolean two = place[1] != place[2];
            Checks.due("nearest(0, 60, " + place[0] + ")", x.nearest(0, 60, place[0]), two ? 2 : 1);
            Checks.dueList(x, two ? new int[][] {{place[1]}, {place[2]}} : new int[][] {{place[1]}});
        }
        Checks.due("a ROW itself", x.nearest(1, 1, 5, -5), 1);
        Checks.due("its SIZE", x.size(0), 0);
        Checks.due("the middle of four", x.nearest(1, 2, 1, 1), 4);
        Checks.due("their SIZE", x.size(3), 2);
        Checks.due("beside the middle of four", x.nearest(1, 60, 30, 29), 2);
        Checks.dueList(x, new int[][] {{0, 0}, {1, 0}});
    }

    private static void nearestByRisingNumbers() {
        Bench x = Checks.bench(Tables.CUBE4, Tables.BENT);
        Checks.due("sixteen", x.nearest(0, 2, -1, 1, -1, 1), 16);
        for (int i = 0; i < 16; i++) {
            Checks.due("row(" + i + ", 0)", x.row(i, 0), (i >> 3 & 1) - 1);
            Checks.due("row(" + i + ", 1)", x.row(i, 1), i >> 2 & 1);
            Checks.due("row(" + i + ", 2)", x.row(i, 2), (i >> 1 & 1) - 1);
            Checks.due("row(" + i + ", 3)", x.row(i, 3), i & 1);
        }
        Checks.due("four of a bent table", x.nearest(1, 2, 1, 1), 4);
        for (int i = 1; i < 4; i++) {
            Checks.due("the lower first, " + i, x.row(i - 1, 0) < x.row(i, 0), true);
        }
    }

    /** Were a half of p0 or p1 taken downwards, the box would be on the other side of 300,000. */
    private static void halfUpwards() {
        dueNear(new int[][] {{835, -885}, {-885, 938}}, 4, 32736, 2, -1);
        dueNear(new int[][] {{421, -450}, {-450, 481}}, 6, 348310, 3, 1);
        dueNear(new int[][] {{637, -747}, {-747, 876}}, 4, 27056, -2, -1);
        dueNear(new int[][] {{735, 850}, {850, 983}}, 4, 311400, -2, 3);
        dueNear(new int[][] {{738, 850}, {850, 979}}, 4, 133280, 1, 2);
        dueNear(new int[][] {{890, -767}, {-767, 661}}, 8, 844470, -7, 4);
        dueNear(new int[][] {{498, -572}, {-572, 657}}, 4, 59736, -1, -2);
        dueNear(new int[][] {{712, -822}, {-822, 949}}, 6, 323830, 1, -3);
    }

    /** SPENT by a box above 300,000, and else as many as the model finds. */
    private static void dueNear(int[][] table, int q, long box, int... p) {
        int[] place = java.util.Arrays.copyOf(p, 4);
        Checks.due("the model's box", Model.boxNear(table, q, place), box);
        int want = box > 300000 ? -2 : Model.countNearest(table, q, place);
        Checks.due("nearest() in a box of " + box, Checks.bench(table).nearest(0, q, p), want);
    }

    /** The lowest or the greatest number of a place lies just on the edge, and takes the box beyond 300,000. */
    private static void theirBoxHasItsEdge() {
        dueNear(new int[][] {{154, -51, -61}, {-51, 17, 21}, {-61, 21, 30}}, 5, 302400, 2, -3, 5);
        dueNear(new int[][] {{131, 223, 50}, {223, 381, 89}, {50, 89, 30}}, 5, 300672, -1, -5, -1);
        dueNear(new int[][] {{10, -40, -74}, {-40, 184, 323}, {-74, 323, 578}}, 3, 300645, 2, 2, 3);
        dueNear(new int[][] {{102, -311, -124}, {-311, 957, 377}, {-124, 377, 151}}, 3, 304776, -2, 2, 2);
        dueNear(new int[][] {{139, -113, -9}, {-113, 93, 8}, {-9, 8, 1}}, 3, 300510, 2, 3, -2);
        dueNear(new int[][] {{125, -51, -179}, {-51, 21, 69}, {-179, 69, 342}}, 8, 322728, -8, -5, 5);
        dueNear(new int[][] {{107, -159, 4, 34}, {-159, 334, 3, -54}, {4, 3, 1, 1}, {34, -54, 1, 11}}, 8, 315744,
            -7, 8, -5, 1);
        dueNear(new int[][] {{1, -4, 3, 10}, {-4, 26, -12, -37}, {3, -12, 10, 32}, {10, -37, 32, 105}}, 5, 305184,
            -2, 3, -2, -1);
        dueNear(new int[][] {{10, 3, 0, 34}, {3, 1, 0, 10}, {0, 0, 1, 0}, {34, 10, 0, 117}}, 8, 310464, -8, 4, -7, -4);
        dueNear(new int[][] {{1, -1, -5, -2}, {-1, 11, 18, 22}, {-5, 18, 42, 36}, {-2, 22, 36, 45}}, 3, 348390,
            -3, 1, 0, 1);
    }

    /** One number more of a place, which is 1 above, would take the box beyond 300,000. */
    private static void theirBoxEndsBehindItsEdge() {
        dueNear(new int[][] {{2, -3, -18}, {-3, 9, 56}, {-18, 56, 349}}, 3, 293480, 1, 0, -1);
        dueNear(new int[][] {{158, 29, -1}, {29, 6, -1}, {-1, -1, 1}}, 33, 298496, -17, -14, 25);
        dueNear(new int[][] {{130, -343, -47}, {-343, 906, 124}, {-47, 124, 17}}, 3, 299574, 0, -2, 2);
        dueNear(new int[][] {{1, 30, 6}, {30, 926, 185}, {6, 185, 37}}, 7, 297570, 5, -2, 5);
        dueNear(new int[][] {{1, 11, 21}, {11, 138, 269}, {21, 269, 526}}, 3, 297924, 1, 2, 1);
        dueNear(new int[][] {{117, 46, 8}, {46, 21, 2}, {8, 2, 1}}, 5, 298894, -3, -5, 3);
        dueNear(new int[][] {{1, 11, 0, -6}, {11, 150, -8, -83}, {0, -8, 6, 5}, {-6, -83, 5, 46}}, 5, 290304,
            2, 3, 3, 4);
        dueNear(new int[][] {{1, -2, -8, 0}, {-2, 21, 44, -9}, {-8, 44, 129, -10}, {0, -9, -10, 6}}, 35, 298116,
            -13, -29, -7, 26);
        dueNear(new int[][] {{1, 0, 8, 8}, {0, 1, 4, 9}, {8, 4, 85, 102}, {8, 9, 102, 146}}, 3, 290400, -2, 1, -1, -3);
        dueNear(new int[][] {{10, 6, 0, -3}, {6, 69, -8, -34}, {0, -8, 1, 4}, {-3, -34, 4, 17}}, 5, 299376,
            2, -2, 3, -3);
    }

    private static void theirBoxUpTo300000() {
        dueNear(new int[][] {{569, -741}, {-741, 965}}, 7, 300000, -5, -3);
        dueNear(new int[][] {{2, -12, 6}, {-12, 878, -419}, {6, -419, 200}}, 3, 300000, 1, -3, -2);
        dueNear(new int[][] {{206, -283, -134, 20}, {-283, 434, 181, -29}, {-134, 181, 90, -13}, {20, -29, -13, 2}}, 2,
            300000, 1, -1, -1, -1);
        dueNear(new int[][] {{2, -13, 28}, {-13, 98, -133}, {28, -133, 570}}, 5, 300001, 2, -1, -5);
        dueNear(new int[][] {{100, 14, 175}, {14, 2, 26}, {175, 26, 364}}, 5, 300001, -5, -1, -2);
        dueNear(new int[][] {{569, -741, 0}, {-741, 965, 0}, {0, 0, 1}}, 7, 41 * 300000, -5, -3, 0);
    }

    /** No place has more than 2 ^ n ROWS that are NEAREST, so there are never more than 16, far from 100. */
    private static void mostThatAreNearest() {
        Bench x = Checks.bench(Tables.ONE, Tables.SQUARE, Tables.CUBE, Tables.CUBE4, Tables.GREATEST);
        for (int n = 1; n <= 4; n++) {
            Checks.due("the middle of all, of " + n, x.nearest(n - 1, 2, 1, 1, 1, 1), 1 << n);
        }
        Checks.due("the middle of the widest", x.nearest(4, 60, 30, 30, 30, 30), 16);
        Checks.due("their SIZE", x.size(15), 4L * 999 * 900);
    }
}
