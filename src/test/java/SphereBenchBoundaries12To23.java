/**
 * The boundary cases that promises 12 to 23 name: just at the boundary, one beyond it on each side where there is one,
 * and of refused calls that they change nothing. Each test's name is the promise's number and the sentence.
 */
public final class SphereBenchBoundaries12To23 {
    private static final int OUT = Checks.OUT;
    private static final int[] FAR = Checks.FAR;

    public static void main(String[] args) {
        reduceAndSame();
        latticesFromLattices();
        theRest();
        Checks.end();
    }

    private static void reduceAndSame() {
        Checks.test("12: is one more: its number; THE WAY is kept", SphereBenchBoundaries12To23::reduceIsOneMore);
        Checks.test("12: NONE, changing nothing: no such one", SphereBenchBoundaries12To23::reduceNoSuchOne);
        Checks.test("12: NONE, changing nothing: there are 20", SphereBenchBoundaries12To23::reduceWhereThereAre20);
        Checks.test("12: a number of its TABLE would be beyond 999", SphereBenchBoundaries12To23::reduceUpTo999);
        Checks.test("13: the same by a WAY: 1 (THE WAY is kept), 0", SphereBenchBoundaries12To23::sameOrNot);
        Checks.test("13: NONE: no such ones, or of unlike n", SphereBenchBoundaries12To23::sameRefused);
        Checks.test("13: -2: SPENT", SphereBenchBoundaries12To23::sameSpent);
        Checks.test("14: Number k of ROW i of THE WAY. -100000", SphereBenchBoundaries12To23::wayInsideAndOutside);
        Checks.test("15: THE WAY's worth, 0 without one", SphereBenchBoundaries12To23::wayWorths);
    }

    private static void latticesFromLattices() {
        Checks.test("16: The DUAL (its TABLE is CO)", SphereBenchBoundaries12To23::duals);
        Checks.test("16: NONE, changing nothing: no such one", SphereBenchBoundaries12To23::dualNoSuchOne);
        Checks.test("16: NONE, changing nothing: there are 20", SphereBenchBoundaries12To23::dualWhereThereAre20);
        Checks.test("16: NONE, changing nothing: beyond 999", SphereBenchBoundaries12To23::dualUpTo999);
        Checks.test("17: square to one another, a's ways first", SphereBenchBoundaries12To23::sums);
        Checks.test("17: NONE, changing nothing: no such ones", SphereBenchBoundaries12To23::sumNoSuchOnes);
        Checks.test("17: NONE, changing nothing: there are 20", SphereBenchBoundaries12To23::sumWhereThereAre20);
        Checks.test("17: NONE, changing nothing: more than 4 ways", SphereBenchBoundaries12To23::sumUpTo4Ways);
        Checks.test("18: A TABLE m times (1 .. 999)", SphereBenchBoundaries12To23::scaleTimes);
        Checks.test("18: NONE, changing nothing, as dual()", SphereBenchBoundaries12To23::scaleRefused);
        Checks.test("18: NONE, changing nothing: beyond 999", SphereBenchBoundaries12To23::scaleUpTo999);
    }

    private static void theRest() {
        Checks.test("19: ROWS made of THE SHEET's lines", SphereBenchBoundaries12To23::withinByLines);
        Checks.test("19: NONE, changing nothing: no such one, 20", SphereBenchBoundaries12To23::withinRefused);
        Checks.test("19: THE SHEET has another number of lines", SphereBenchBoundaries12To23::withinOfOtherLines);
        Checks.test("19: its determinant is 0", SphereBenchBoundaries12To23::withinFlat);
        Checks.test("19: a number would be beyond 999", SphereBenchBoundaries12To23::withinUpTo999);
        Checks.test("20: THE SHEET's determinant without sign", SphereBenchBoundaries12To23::indexWithoutSign);
        Checks.test("21: 1, 0 alike, -1 the other one is", SphereBenchBoundaries12To23::denserOrNot);
        Checks.test("21: -3: no such ones, or of unlike n", SphereBenchBoundaries12To23::denserRefused);
        Checks.test("21: -2: SPENT (either's MIN)", SphereBenchBoundaries12To23::denserSpent);
        Checks.test("22: how many; they are the LIST", SphereBenchBoundaries12To23::nearestBecomesTheList);
        Checks.test("22: q 1 .. 60", SphereBenchBoundaries12To23::nearestParts);
        Checks.test("22: p -6000 .. 6000 each", SphereBenchBoundaries12To23::nearestPlaces);
        Checks.test("22: those beyond n don't count", SphereBenchBoundaries12To23::nearestBeyondN);
        Checks.test("22: NONE, and the LIST stays: no such lattice", SphereBenchBoundaries12To23::nearestRefused);
        Checks.test("22: -2: SPENT", SphereBenchBoundaries12To23::nearestSpent);
        Checks.test("23: 0 lattices", SphereBenchBoundaries12To23::toldLattices);
        Checks.test("23: 1 lines of THE SHEET", SphereBenchBoundaries12To23::toldLines);
        Checks.test("23: 2 ROWS in the LIST", SphereBenchBoundaries12To23::toldRows);
        Checks.test("23: 3 ROWS of THE WAY (0 without)", SphereBenchBoundaries12To23::toldWay);
        Checks.test("23: NONE for others", SphereBenchBoundaries12To23::toldOthers);
    }

    private static void reduceIsOneMore() {
        Bench x = Tables.busyWithLattices(19);
        Checks.due("the 20th", x.reduce(2), 19);
        Checks.due("told(0)", x.told(0), 20);
        Checks.dueTable(x, 19, Tables.SQUARE);
        Checks.dueTable(x, 2, Tables.BENT);
        Checks.dueMeetings(x, Tables.BENT, Tables.SQUARE);
        for (int[][] table : Tables.OF_WAYS) {
            Bench y = Checks.bench(table);
            Checks.due("reduce(0)", y.reduce(0), 1);
            Checks.dueTable(y, 1, table);
            Checks.dueWay(y, table);
        }
    }

    private static void reduceNoSuchOne() {
        Bench x = Tables.busy();
        Checks.dueUnchanged(x, () -> {
            Checks.due("reduce(4)", x.reduce(4), -1);
            Checks.due("reduce(-1)", x.reduce(-1), -1);
            Checks.due("reduce(20)", x.reduce(20), -1);
            for (int far : FAR) {
                Checks.due("reduce(" + far + ")", x.reduce(far), -1);
            }
        });
        Checks.due("reduce(3)", x.reduce(3), 4);
    }

    private static void reduceWhereThereAre20() {
        Bench x = Tables.busyWithLattices(20);
        Checks.dueUnchanged(x, () -> {
            Checks.due("reduce(0)", x.reduce(0), -1);
            Checks.due("reduce(19)", x.reduce(19), -1);
        });
    }

    /** ROWS only become shorter, and no MEETING is above the greater SIZE: nothing beyond 999 can come of it. */
    private static void reduceUpTo999() {
        int[][] close = {{999, 998}, {998, 999}};
        Bench x = Checks.bench(Tables.GREATEST, close, new int[][] {{999, 499}, {499, 999}},
            new int[][] {{999, 500}, {500, 999}});
        Checks.due("reduce(0)", x.reduce(0), 4);
        Checks.dueTable(x, 4, Tables.GREATEST);
        Checks.due("reduce(1)", x.reduce(1), 5);
        Checks.due("table(5, 0, 0)", x.table(5, 0, 0), 2);
        Checks.due("table(5, 1, 1)", x.table(5, 1, 1), 999);
        Checks.due("reduce(2)", x.reduce(2), 6);
        Checks.dueTable(x, 6, new int[][] {{999, 499}, {499, 999}});
        Checks.due("reduce(3)", x.reduce(3), 7);
        Checks.dueTable(x, 7, new int[][] {{998, -499}, {-499, 999}});
    }

    private static void sameOrNot() {
        int[][] turned = {{2, 1}, {1, 2}};
        int[][] three = {{1, 0}, {0, 3}};
        Bench x = Checks.bench(Tables.HEXAGON, turned, three, Tables.SQUARE, new int[][] {{1, 0}, {0, 2}});
        Checks.due("0 where no WAY was kept", x.same(0, 2), 0);
        Checks.due("told(3)", x.told(3), 0);
        Checks.due("same(0, 1)", x.same(0, 1), 1);
        Checks.dueWay(x, new int[][] {{-1, -1}, {-1, 0}});
        Checks.dueUnchanged(x, () -> {
            Checks.due("of like WORTH", x.same(0, 2), 0);
            Checks.due("of like WORTH", x.same(2, 0), 0);
            Checks.due("of WORTH 1 and 2", x.same(3, 4), 0);
            Checks.due("of WORTH 2 and 1", x.same(4, 3), 0);
        });
        Checks.due("same(2, 2)", x.same(2, 2), 1);
        Checks.dueWay(x, new int[][] {{-1, 0}, {0, -1}});
        for (int n = 1; n <= 4; n++) {
            Bench y = Checks.bench(Tables.OF_WAYS[n - 1]);
            Checks.due("one with itself", y.same(0, 0), 1);
            Checks.due("told(3)", y.told(3), n);
            Checks.due("told(2)", y.told(2), 0);
        }
    }

    private static void sameRefused() {
        Bench x = Tables.busy();
        Checks.dueUnchanged(x, () -> {
            Checks.due("same(0, 4)", x.same(0, 4), -1);
            Checks.due("same(4, 0)", x.same(4, 0), -1);
            Checks.due("same(-1, 0)", x.same(-1, 0), -1);
            Checks.due("same(0, -1)", x.same(0, -1), -1);
            Checks.due("of unlike n", x.same(0, 1), -1);
            Checks.due("of unlike n", x.same(1, 0), -1);
            for (int far : FAR) {
                Checks.due("same(" + far + ", 0)", x.same(far, 0), -1);
                Checks.due("same(0, " + far + ")", x.same(0, far), -1);
            }
        });
        Bench y = Checks.bench(Tables.OF_WAYS);
        for (int a = 0; a < 4; a++) {
            for (int b = 0; b < 4; b++) {
                Checks.due("same(" + a + ", " + b + ")", y.same(a, b), a == b ? 1 : -1);
            }
        }
    }

    private static void sameSpent() {
        int[][] flat = {{1, 0, 0}, {0, 1, 0}, {0, 0, 999}};
        Bench x = Checks.bench(Tables.SQUARE, Tables.MORE_BENT, flat);
        x.same(0, 0);
        Checks.dueUnchanged(x, () -> {
            Checks.due("by ROWS", x.same(0, 1), -2);
            Checks.due("by a box", x.same(1, 1), -2);
            Checks.due("by ROWS of three ways", x.same(2, 2), -2);
        });
        Checks.due("the other way about", x.same(1, 0), 1);
    }

    private static void wayInsideAndOutside() {
        Bench x = Checks.bench(Tables.OF_WAYS);
        Checks.due("way(0, 0) without one", x.way(0, 0), OUT);
        for (int n = 1; n <= 4; n++) {
            Checks.due("same()", x.same(n - 1, n - 1), 1);
            for (int i = -1; i <= n; i++) {
                for (int k = -1; k <= n; k++) {
                    boolean inside = i >= 0 && k >= 0 && i < n && k < n;
                    Checks.due("way(" + i + ", " + k + ") of " + n, x.way(i, k), inside ? i == k ? -1 : 0 : OUT);
                }
            }
        }
        Checks.due("a shorter WAY after a long one", x.same(0, 0), 1);
        Checks.due("way(0, 1)", x.way(0, 1), OUT);
        Checks.due("way(1, 0)", x.way(1, 0), OUT);
        for (int far : FAR) {
            Checks.due("way(" + far + ", 0)", x.way(far, 0), OUT);
            Checks.due("way(0, " + far + ")", x.way(0, far), OUT);
        }
    }

    private static void wayWorths() {
        Bench x = Checks.bench(Tables.ONE, new int[][] {{3, 0}, {0, 2}}, Tables.CUBE, Tables.CUBE4, Tables.BENT,
            Tables.HEXAGON);
        Checks.due("without one", x.wayWorth(), 0);
        x.same(5, 1);
        Checks.due("without one still", x.wayWorth(), 0);
        x.same(0, 0);
        Checks.due("of -1", x.wayWorth(), -1);
        x.reduce(1);
        Checks.due("of two ROWS changed about", x.wayWorth(), -1);
        x.reduce(2);
        Checks.due("of doing nothing", x.wayWorth(), 1);
        x.same(2, 2);
        Checks.due("of three times -1", x.wayWorth(), -1);
        x.same(3, 3);
        Checks.due("of four times -1", x.wayWorth(), 1);
        x.reduce(4);
        Checks.due("without sign, of a bent one", Math.abs(x.wayWorth()), 1);
        long determinant = (long) x.way(0, 0) * x.way(1, 1) - (long) x.way(0, 1) * x.way(1, 0);
        Checks.due("wayWorth()", x.wayWorth(), determinant);
    }

    private static void duals() {
        Bench x = Checks.bench(new int[][] {{999}}, new int[][] {{5, 2}, {2, 999}},
            new int[][] {{2, 1, 0}, {1, 3, -1}, {0, -1, 4}}, Tables.D4);
        Checks.due("of one way", x.dual(0), 4);
        Checks.dueTable(x, 4, Tables.ONE);
        Checks.due("of two ways", x.dual(1), 5);
        Checks.dueTable(x, 5, new int[][] {{999, -2}, {-2, 5}});
        Checks.due("of three ways", x.dual(2), 6);
        Checks.dueTable(x, 6, new int[][] {{11, -4, -1}, {-4, 8, 2}, {-1, 2, 5}});
        Checks.due("of four ways", x.dual(3), 7);
        Checks.dueTable(x, 7, new int[][] {{4, 4, 2, 2}, {4, 8, 4, 4}, {2, 4, 4, 2}, {2, 4, 2, 4}});
        Checks.dueTable(x, 3, Tables.D4);
    }

    private static void dualNoSuchOne() {
        Bench x = Tables.busy();
        Checks.dueUnchanged(x, () -> {
            Checks.due("dual(4)", x.dual(4), -1);
            Checks.due("dual(-1)", x.dual(-1), -1);
            for (int far : FAR) {
                Checks.due("dual(" + far + ")", x.dual(far), -1);
            }
        });
        Checks.due("dual(3)", x.dual(3), 4);
    }

    private static void dualWhereThereAre20() {
        Bench x = Tables.busyWithLattices(19);
        Checks.due("the 20th", x.dual(1), 19);
        Checks.dueUnchanged(x, () -> {
            Checks.due("dual(0)", x.dual(0), -1);
            Checks.due("dual(19)", x.dual(19), -1);
        });
    }

    /** A number of 999, and of 1000, at each place across. */
    private static void dualUpTo999() {
        Bench x = Checks.bench(new int[][] {{27, 0, 0}, {0, 37, 0}, {0, 0, 1}},
            new int[][] {{9, 0, 0, 0}, {0, 111, 0, 0}, {0, 0, 1, 0}, {0, 0, 0, 1}}, Tables.ONE);
        Checks.due("999 of three ways", x.dual(0), 3);
        Checks.dueTable(x, 3, new int[][] {{37, 0, 0}, {0, 27, 0}, {0, 0, 999}});
        Checks.due("999 of four ways", x.dual(1), 4);
        Checks.dueTable(x, 4, new int[][] {{111, 0, 0, 0}, {0, 9, 0, 0}, {0, 0, 999, 0}, {0, 0, 0, 999}});
        for (int n = 3; n <= 4; n++) {
            for (int at = 0; at < n; at++) {
                dueDualBeyond999(n, at);
            }
        }
        int[][] across = {{32, 1, 0}, {1, 32, 0}, {0, 0, 1}};
        Bench y = Checks.bench(across);
        Checks.dueUnchanged(y, () -> Checks.due("1023", y.dual(0), -1));
    }

    private static void dueDualBeyond999(int n, int at) {
        int[][] table = new int[n][n];
        for (int i = 0; i < n; i++) {
            table[i][i] = i == at ? 1 : 10;
        }
        if (n == 3) {
            table[at == 0 ? 1 : 0][at == 0 ? 1 : 0] = 100;
        }
        Bench x = Checks.bench(table);
        x.rows(0, 1);
        Checks.dueUnchanged(x, () -> Checks.due("1000 at " + at + " of " + n, x.dual(0), -1));
    }

    private static void sums() {
        int[][] three = {{2, -1, 0}, {-1, 2, -1}, {0, -1, 2}};
        Bench x = Checks.bench(Tables.HEXAGON, new int[][] {{999}}, three);
        Checks.due("sum(0, 1)", x.sum(0, 1), 3);
        Checks.dueTable(x, 3, new int[][] {{2, -1, 0}, {-1, 2, 0}, {0, 0, 999}});
        Checks.due("sum(1, 0)", x.sum(1, 0), 4);
        Checks.dueTable(x, 4, new int[][] {{999, 0, 0}, {0, 2, -1}, {0, -1, 2}});
        Checks.due("sum(0, 0)", x.sum(0, 0), 5);
        Checks.dueTable(x, 5, new int[][] {{2, -1, 0, 0}, {-1, 2, 0, 0}, {0, 0, 2, -1}, {0, 0, -1, 2}});
        Checks.due("sum(1, 1)", x.sum(1, 1), 6);
        Checks.dueTable(x, 6, new int[][] {{999, 0}, {0, 999}});
        Checks.due("sum(1, 2)", x.sum(1, 2), 7);
        Checks.dueTable(x, 7, new int[][] {{999, 0, 0, 0}, {0, 2, -1, 0}, {0, -1, 2, -1}, {0, 0, -1, 2}});
        Checks.due("sum(2, 1)", x.sum(2, 1), 8);
        Checks.dueTable(x, 8, new int[][] {{2, -1, 0, 0}, {-1, 2, -1, 0}, {0, -1, 2, 0}, {0, 0, 0, 999}});
    }

    private static void sumNoSuchOnes() {
        Bench x = Tables.busy();
        Checks.dueUnchanged(x, () -> {
            Checks.due("sum(0, 4)", x.sum(0, 4), -1);
            Checks.due("sum(4, 0)", x.sum(4, 0), -1);
            Checks.due("sum(0, -1)", x.sum(0, -1), -1);
            Checks.due("sum(-1, 0)", x.sum(-1, 0), -1);
            for (int far : FAR) {
                Checks.due("sum(" + far + ", 0)", x.sum(far, 0), -1);
                Checks.due("sum(0, " + far + ")", x.sum(0, far), -1);
            }
        });
        Checks.due("sum(3, 3)", x.sum(3, 3), 4);
    }

    private static void sumWhereThereAre20() {
        Bench x = Tables.busyWithLattices(19);
        Checks.due("the 20th", x.sum(1, 1), 19);
        Checks.dueUnchanged(x, () -> Checks.due("sum(1, 1)", x.sum(1, 1), -1));
    }

    private static void sumUpTo4Ways() {
        Bench x = Checks.bench(Tables.OF_WAYS);
        Checks.dueUnchanged(x, () -> {
            for (int a = 1; a <= 4; a++) {
                for (int b = 5 - a; b <= 4; b++) {
                    Checks.due("of " + a + " and " + b + " ways", x.sum(a - 1, b - 1), -1);
                }
            }
        });
        int count = 4;
        for (int a = 1; a <= 3; a++) {
            for (int b = 1; b <= 4 - a; b++) {
                Checks.due("of " + a + " and " + b + " ways", x.sum(a - 1, b - 1), count);
                Checks.due("n", x.about(count, 0), a + b);
                count++;
            }
        }
    }

    private static void scaleTimes() {
        Bench x = Checks.bench(Tables.ONE, Tables.HEXAGON);
        Checks.due("scale(0, 1)", x.scale(0, 1), 2);
        Checks.dueTable(x, 2, Tables.ONE);
        Checks.due("scale(0, 999)", x.scale(0, 999), 3);
        Checks.dueTable(x, 3, new int[][] {{999}});
        Checks.due("scale(0, 998)", x.scale(0, 998), 4);
        Checks.dueTable(x, 4, new int[][] {{998}});
        Checks.due("scale(1, 2)", x.scale(1, 2), 5);
        Checks.dueTable(x, 5, new int[][] {{4, -2}, {-2, 4}});
        Checks.dueTable(x, 1, Tables.HEXAGON);
    }

    private static void scaleRefused() {
        Bench x = Tables.busyWithLattices(19);
        Checks.dueUnchanged(x, () -> {
            Checks.due("scale(1, 0)", x.scale(1, 0), -1);
            Checks.due("scale(1, -1)", x.scale(1, -1), -1);
            Checks.due("scale(18, 1000)", x.scale(18, 1000), -1);
            Checks.due("scale(19, 1)", x.scale(19, 1), -1);
            Checks.due("scale(-1, 1)", x.scale(-1, 1), -1);
            for (int far : FAR) {
                Checks.due("scale(" + far + ", 1)", x.scale(far, 1), -1);
                Checks.due("scale(1, " + far + ")", x.scale(1, far), -1);
            }
        });
        Checks.due("the 20th", x.scale(1, 1), 19);
        Checks.due("scale(1, 1) where there are 20", x.scale(1, 1), -1);
        Checks.due("told(0)", x.told(0), 20);
    }

    /** A number of 999 at each place across, and of 1000 or a little more. */
    private static void scaleUpTo999() {
        Bench x = Checks.bench(new int[][] {{333, 1}, {1, 2}}, new int[][] {{2, -1}, {-1, 333}},
            new int[][] {{500, 0}, {0, 1}}, new int[][] {{1, 0}, {0, 500}}, new int[][] {{999}});
        Checks.dueUnchanged(x, () -> {
            Checks.due("1332", x.scale(0, 4), -1);
            Checks.due("1332", x.scale(1, 4), -1);
            Checks.due("1000", x.scale(2, 2), -1);
            Checks.due("1000", x.scale(3, 2), -1);
            Checks.due("1998", x.scale(4, 2), -1);
            Checks.due("998001", x.scale(4, 999), -1);
        });
        Checks.due("999", x.scale(0, 3), 5);
        Checks.dueTable(x, 5, new int[][] {{999, 3}, {3, 6}});
        Checks.due("999", x.scale(1, 3), 6);
        Checks.dueTable(x, 6, new int[][] {{6, -3}, {-3, 999}});
        Checks.due("999", x.scale(4, 1), 7);
    }

    private static void withinByLines() {
        Bench x = Checks.bench(Tables.HEXAGON, Tables.CUBE4);
        x.write(new int[][] {{1, 1}, {2, -1}});
        Checks.due("within(0)", x.within(0), 2);
        Checks.dueTable(x, 2, new int[][] {{2, 1}, {1, 14}});
        Checks.due("THE SHEET stays", x.cellOf(1, 1), -1);
        Checks.dueTable(x, 0, Tables.HEXAGON);
        x.write(new int[][] {{1, 2, 0, 0}, {0, 1, -1, 0}, {3, 0, 0, 1}, {0, 0, 0, 2}});
        Checks.due("within(1)", x.within(1), 3);
        Checks.dueTable(x, 3, new int[][] {{5, 2, 3, 0}, {2, 2, 0, 0}, {3, 0, 10, 2}, {0, 0, 2, 4}});
        Checks.due("WORTH is the square of the index", x.about(3, 1), x.index() * x.index());
    }

    private static void withinRefused() {
        Bench x = Tables.busyWithLattices(19);
        Checks.dueUnchanged(x, () -> {
            Checks.due("within(19)", x.within(19), -1);
            Checks.due("within(-1)", x.within(-1), -1);
            for (int far : FAR) {
                Checks.due("within(" + far + ")", x.within(far), -1);
            }
        });
        Checks.due("the 20th", x.within(0), 19);
        Checks.due("within(0) where there are 20", x.within(0), -1);
        Checks.due("told(0)", x.told(0), 20);
    }

    private static void withinOfOtherLines() {
        for (int n = 1; n <= 4; n++) {
            Bench x = Checks.bench(Tables.OF_WAYS);
            x.write(Tables.OF_WAYS[n - 1]);
            Checks.dueUnchanged(x, () -> {
                for (int a = 0; a < 4; a++) {
                    if (a != x.told(1) - 1) {
                        Checks.due("within(" + a + ")", x.within(a), -1);
                    }
                }
            });
            Checks.due("within one of as many ways", x.within(n - 1), 4);
        }
    }

    private static void withinFlat() {
        Bench x = Checks.bench(Tables.SQUARE, Tables.CUBE4);
        x.write(new int[][] {{1, 1}, {1, 1}});
        Checks.dueUnchanged(x, () -> Checks.due("a determinant of 0", x.within(0), -1));
        x.write(new int[][] {{1, 1}, {1, 2}});
        Checks.due("a determinant of 1", x.within(0), 2);
        x.write(new int[][] {{1, 1}, {1, 0}});
        Checks.due("a determinant of -1", x.within(0), 3);
        x.sheet(2);
        Checks.due("noughts", x.within(0), -1);
        x.write(new int[][] {{1, 2, 3, 4}, {5, 6, 7, 8}, {1, 1, 1, 1}, {0, 0, 0, 1}});
        Checks.due("lines made of others", x.within(1), -1);
        x.write(new int[][] {{1, 0, 0, 0}, {0, 1, 0, 0}, {0, 0, 1, 0}, {0, 0, 0, 0}});
        Checks.due("a line of noughts", x.within(1), -1);
        Checks.due("told(0)", x.told(0), 4);
    }

    private static void withinUpTo999() {
        Bench x = Checks.bench(new int[][] {{111}}, new int[][] {{250}}, new int[][] {{999}}, Tables.SQUARE);
        x.write(new int[][] {{-3}});
        Checks.due("999", x.within(0), 4);
        Checks.dueTable(x, 4, new int[][] {{999}});
        x.write(new int[][] {{2}});
        Checks.dueUnchanged(x, () -> {
            Checks.due("1000", x.within(1), -1);
            Checks.due("3996", x.within(2), -1);
        });
        x.write(new int[][] {{-1}});
        Checks.due("999", x.within(2), 5);
        x.write(new int[][] {{999}});
        Checks.due("997002999", x.within(2), -1);
        x.write(new int[][] {{30, 9}, {9, -30}});
        Checks.due("981 twice", x.within(3), 6);
        Checks.dueTable(x, 6, new int[][] {{981, 0}, {0, 981}});
        x.write(new int[][] {{30, 10}, {0, 1}});
        Checks.due("1000 across first", x.within(3), -1);
        x.write(new int[][] {{1, 0}, {10, 30}});
        Checks.due("1000 across second", x.within(3), -1);
        Checks.due("told(0)", x.told(0), 7);
    }

    private static void indexWithoutSign() {
        Bench x = new Bench();
        for (int v = -2; v <= 2; v++) {
            x.write(new int[][] {{v}});
            Checks.due("of " + v, x.index(), Math.abs(v));
        }
        x.write(new int[][] {{0, 1}, {1, 0}});
        Checks.due("of -1", x.index(), 1);
        x.write(new int[][] {{1, 2, 3}, {4, 5, 6}, {7, 8, 9}});
        Checks.due("of lines made of others", x.index(), 0);
        int[][] greatest = {{999, 999, 999, 999}, {999, -999, 999, -999}, {999, 999, -999, -999},
            {999, -999, -999, 999}};
        x.write(greatest);
        Checks.due("the greatest", x.index(), 16L * 999 * 999 * 999 * 999);
        x.write(new int[][] {greatest[1], greatest[0], greatest[2], greatest[3]});
        Checks.due("the greatest, of the other sign", x.index(), 16L * 999 * 999 * 999 * 999);
        for (int n = 1; n <= 4; n++) {
            x.sheet(n);
            Checks.due("of noughts", x.index(), 0);
        }
    }

    private static void denserOrNot() {
        Bench x = Checks.bench(Tables.SQUARE, Tables.HEXAGON, Tables.BENT, new int[][] {{998, 0}, {0, 998}},
            new int[][] {{998, 1}, {1, 998}});
        Checks.due("denser(1, 0)", x.denser(1, 0), 1);
        Checks.due("denser(0, 1)", x.denser(0, 1), -1);
        Checks.due("denser(0, 2)", x.denser(0, 2), 0);
        Checks.due("denser(2, 0)", x.denser(2, 0), 0);
        Checks.due("denser(1, 1)", x.denser(1, 1), 0);
        Checks.due("one of 998 ^ 2 and of 998 ^ 2 - 1", x.denser(4, 3), 1);
        Checks.due("one of 998 ^ 2 and of 998 ^ 2 - 1", x.denser(3, 4), -1);
        Checks.due("by a greater table", x.denser(3, 0), 0);
        Checks.due("told(2)", x.told(2), 0);
    }

    private static void denserRefused() {
        Bench x = Checks.bench(Tables.SQUARE, Tables.CUBE, Tables.MORE_BENT, Tables.ONE);
        Checks.dueUnchanged(x, () -> {
            Checks.due("denser(0, 4)", x.denser(0, 4), -3);
            Checks.due("denser(4, 0)", x.denser(4, 0), -3);
            Checks.due("denser(0, -1)", x.denser(0, -1), -3);
            Checks.due("denser(-1, 0)", x.denser(-1, 0), -3);
            Checks.due("of unlike n", x.denser(0, 1), -3);
            Checks.due("of unlike n", x.denser(1, 0), -3);
            Checks.due("of unlike n", x.denser(0, 3), -3);
            Checks.due("of unlike n, one is SPENT", x.denser(1, 2), -3);
            Checks.due("no such one, the other is SPENT", x.denser(2, 4), -3);
            for (int far : FAR) {
                Checks.due("denser(" + far + ", 0)", x.denser(far, 0), -3);
                Checks.due("denser(0, " + far + ")", x.denser(0, far), -3);
            }
        });
    }

    private static void denserSpent() {
        Bench x = Checks.bench(Tables.CUBE, Tables.ROWS_1000, Tables.ROWS_1002, Tables.BOX_299997, Tables.CUBE4,
            Tables.BOX_300001);
        Checks.due("a MIN by 1,000 ROWS", x.denser(0, 1), 1);
        Checks.due("a MIN by 1,000 ROWS", x.denser(1, 0), -1);
        Checks.due("a MIN by 1,002 ROWS", x.denser(0, 2), -2);
        Checks.due("a MIN by 1,002 ROWS", x.denser(2, 0), -2);
        Checks.due("with itself", x.denser(2, 2), -2);
        Checks.due("a MIN in a box of 299,997", x.denser(3, 0), 1);
        Checks.due("a MIN in a box of 299,997", x.denser(0, 3), -1);
        Checks.due("a MIN in a box of 300,001", x.denser(4, 5), -2);
        Checks.due("a MIN in a box of 300,001", x.denser(5, 4), -2);
    }

    private static void nearestBecomesTheList() {
        Bench x = Checks.bench(Tables.SQUARE, Tables.HEXAGON, Tables.ONE);
        Checks.due("the middle of four", x.nearest(0, 2, 1, -1), 4);
        Checks.dueList(x, new int[][] {{0, -1}, {0, 0}, {1, -1}, {1, 0}});
        Checks.due("the middle of three", x.nearest(1, 3, 2, 1), 3);
        Checks.dueList(x, new int[][] {{0, 0}, {1, 0}, {1, 1}});
        Checks.due("row(3, 0)", x.row(3, 0), OUT);
        Checks.due("of one way", x.nearest(2, 2, -3), 2);
        Checks.dueList(x, new int[][] {{-2}, {-1}});
        Checks.due("row(0, 1)", x.row(0, 1), OUT);
        Checks.due("noughts themselves", x.nearest(0, 1, 0, 0), 1);
        Checks.dueList(x, new int[][] {{0, 0}});
    }

    private static void nearestParts() {
        Bench x = Checks.bench(Tables.ONE, Tables.CUBE4);
        Checks.due("q of 1", x.nearest(0, 1, 7), 1);
        Checks.dueList(x, new int[][] {{7}});
        Checks.due("q of 60", x.nearest(0, 60, 30), 2);
        Checks.due("q of 59", x.nearest(0, 59, 30), 1);
        Checks.due("q of 60, four ways", x.nearest(1, 60, 30, -30, 90, 29), 8);
        Checks.dueUnchanged(x, () -> {
            int[] others = {0, 61, -1, 62, -60, Integer.MIN_VALUE, Integer.MAX_VALUE};
            for (int q : others) {
                Checks.due("q of " + q, x.nearest(0, q, 0), -1);
            }
        });
    }

    private static void nearestPlaces() {
        Bench x = Checks.bench(Tables.OF_WAYS);
        for (int n = 1; n <= 4; n++) {
            for (int at = 0; at < n; at++) {
                int[] p = new int[4];
                int[] taken = {6000, -6000, 5999};
                for (int v : taken) {
                    p[at] = v;
                    Checks.due(v + " at " + at + " of " + n, x.nearest(n - 1, 1, p), 1);
                    Checks.due("row(0, " + at + ")", x.row(0, at), v);
                }
                int[] refused = {6001, -6001, Integer.MIN_VALUE, Integer.MAX_VALUE};
                for (int v : refused) {
                    p[at] = v;
                    Checks.due(v + " at " + at + " of " + n, x.nearest(n - 1, 1, p), -1);
                }
                Checks.due("the LIST stays", x.row(0, at), 5999);
            }
        }
        Checks.due("all at once", x.nearest(3, 60, 6000, -6000, 6000, -6000), 1);
        Checks.dueList(x, new int[][] {{100, -100, 100, -100}});
    }

    private static void nearestBeyondN() {
        Bench x = Checks.bench(Tables.OF_WAYS);
        int[] odd = {6001, -6001, Integer.MIN_VALUE, Integer.MAX_VALUE};
        for (int n = 1; n <= 3; n++) {
            for (int v : odd) {
                int[] p = {v, v, v, v};
                for (int i = 0; i < n; i++) {
                    p[i] = 2 * i + 1;
                }
                Checks.due(v + " beyond " + n, x.nearest(n - 1, 2, p), 1 << n);
                Checks.due("row(0, n - 1)", x.row(0, n - 1), n - 1);
                p[n - 1] = v;
                Checks.due(v + " at the last of " + n, x.nearest(n - 1, 2, p), -1);
            }
        }
    }

    private static void nearestRefused() {
        Bench x = Tables.busy();
        Checks.dueUnchanged(x, () -> {
            Checks.due("nearest(4, 1, 0)", x.nearest(4, 1, 0), -1);
            Checks.due("nearest(-1, 1, 0)", x.nearest(-1, 1, 0), -1);
            Checks.due("nearest(0, 0, 0)", x.nearest(0, 0, 0), -1);
            Checks.due("nearest(0, 61, 0)", x.nearest(0, 61, 0), -1);
            Checks.due("nearest(0, 1, 6001)", x.nearest(0, 1, 6001), -1);
            Checks.due("nearest(0, 1, 0, -6001)", x.nearest(0, 1, 0, -6001), -1);
            for (int far : FAR) {
                Checks.due("nearest(" + far + ", 1, 0)", x.nearest(far, 1, 0), -1);
                Checks.due("nearest(0, " + far + ", 0)", x.nearest(0, far, 0), -1);
                Checks.due("nearest(0, 1, " + far + ")", x.nearest(0, 1, far), -1);
            }
        });
    }

    private static void nearestSpent() {
        int[][] just = {{2, -12, 6}, {-12, 878, -419}, {6, -419, 200}};
        int[][] beyond = {{2, -13, 28}, {-13, 98, -133}, {28, -133, 570}};
        Checks.due("the model's box", Model.boxNear(just, 3, new int[] {1, -3, -2, 0}), 300000);
        Checks.due("the model's box", Model.boxNear(beyond, 5, new int[] {2, -1, -5, 0}), 300001);
        Bench x = Checks.bench(just, beyond);
        int want = Model.countNearest(just, 3, new int[] {1, -3, -2, 0});
        Checks.due("a box of 300,000", x.nearest(0, 3, 1, -3, -2), want);
        Checks.dueUnchanged(x, () -> Checks.due("a box of 300,001", x.nearest(1, 5, 2, -1, -5), -2));
    }

    private static void toldLattices() {
        Bench x = new Bench();
        for (int a = 0; a < 20; a++) {
            Checks.due("told(0)", x.told(0), a);
            x.take();
        }
        Checks.due("told(0)", x.told(0), 20);
        x.take();
        Checks.due("told(0)", x.told(0), 20);
    }

    private static void toldLines() {
        Bench x = new Bench();
        Checks.due("told(1) at first", x.told(1), 1);
        for (int n = 4; n >= 1; n--) {
            x.sheet(n);
            Checks.due("told(1)", x.told(1), n);
        }
        x.sheet(5);
        Checks.due("told(1)", x.told(1), 1);
    }

    private static void toldRows() {
        Bench x = Checks.bench(Tables.ONE);
        Checks.due("told(2) at first", x.told(2), 0);
        x.rows(0, 250000);
        Checks.due("the most", x.told(2), 1000);
        x.nearest(0, 1, 0);
        Checks.due("one", x.told(2), 1);
        x.scale(0, 2);
        x.rows(1, 1);
        Checks.due("none", x.told(2), 0);
    }

    private static void toldWay() {
        Bench x = Checks.bench(Tables.OF_WAYS);
        Checks.due("told(3) without one", x.told(3), 0);
        x.same(0, 1);
        Checks.due("told(3) without one still", x.told(3), 0);
        for (int n = 4; n >= 1; n--) {
            x.same(n - 1, n - 1);
            Checks.due("told(3) after same()", x.told(3), n);
        }
        for (int n = 4; n >= 1; n--) {
            x.reduce(n - 1);
            Checks.due("told(3) after reduce()", x.told(3), n);
        }
    }

    private static void toldOthers() {
        Bench x = Tables.busy();
        long[] want = {-1, 4, 2, 2, 2, -1, -1};
        for (int what = -1; what <= 5; what++) {
            Checks.due("told(" + what + ")", x.told(what), want[what + 1]);
        }
        for (int far : FAR) {
            Checks.due("told(" + far + ")", x.told(far), -1);
        }
        Checks.due("NONE", SphereBench.NONE, -1);
    }
}
