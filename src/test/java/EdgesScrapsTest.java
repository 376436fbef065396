/** Promises 2 to 14, a sentence of the document at a time: its edges, its ties, and what falls or is torn. */
public final class EdgesScrapsTest {
    private static final int NONE = FilesOpened.NONE;
    private static final Due due = new Due();

    private EdgesScrapsTest() {
    }

    public static void main(String[] args) {
        lastDay();
        hours();
        codes();
        handsAlike();
        besideAndBelow();
        edgesOfAScrap();
        oneToEightScraps();
        shapesOfEight();
        noneTurned();
        looseOnesAlone();
        firstByScraps();
        allWaysAlike();
        allWaysFitAlike();
        waysAsGood();
        besideAndBelowAtOnce();
        layingAfterLaying();
        refusedLayingStays();
        judgedRows();
        takenIfLoose();
        takenSecondWay();
        tornOnce();
        openedOnce();
        ofASheet();
        due.end();
    }

    /** 2: NOW is a DAY, its own or a later one. */
    private static void lastDay() {
        FilesOpened x = new FilesOpened();
        due.yes("clock(3998)", x.clock(3998));
        due.yes("clock(3999)", x.clock(3999));
        due.yes("its own", x.clock(3999));
        due.no("an earlier one", x.clock(3998));
        due.no("behind the last", x.clock(4000));
        due.is("now", x.count(0), 3999);
        due.is("a sheet comes on the last day", x.sheets(x.sheet(), 0), 3999);
    }

    /** 3: HOURS of work, 1 to 999: as the order of sacks counts them. */
    private static void hours() {
        FilesOpened x = new FilesOpened();
        due.is("sack(1)", x.sack(1), 0);
        due.is("sack(999)", x.sack(999), 1);
        x.asker(3, 1);
        due.is("1 and 999", x.order(2, Due.packed(5, 0, 1)), 1000);
        x.asker(1, 1);
        due.is("1", x.order(1, 0), 1);
        x.asker(1, 1);
        due.is("999", x.order(1, 1), 999);
    }

    private static FilesOpened sacks(int many) {
        FilesOpened x = new FilesOpened();
        for (int i = 0; i < many; i++) {
            x.sack(1);
        }
        return x;
    }

    /** Whether two edges fit, beside one another and one below the other. */
    private static void codesFit(int one, int other, int want) {
        FilesOpened x = sacks(1);
        x.scrap(0, 0, Due.edges(0, one, one, 0));
        x.scrap(0, 0, Due.edges(other, 0, 0, other));
        due.is(one + " right of " + other, x.fits(0, 1, 0), want);
        due.is(one + " above " + other, x.fits(0, 1, 1), want);
        due.is("judged beside " + one + ", " + other, x.judged(2, 1, Due.packed(8, 0, 1)), want);
        due.is("judged below " + one + ", " + other, x.judged(1, 2, Due.packed(8, 0, 1)), want);
        due.is("laid beside " + one + ", " + other, x.lay(0, 2, 1), want);
        due.is("laid below " + one + ", " + other, x.lay(0, 1, 2), want);
    }

    /** A code -32767 to 32767; 0 smooth, -32768 torn off: they join nothing; one is the other's negative. */
    private static void codes() {
        codesFit(1, -1, 1);
        codesFit(-1, 1, 1);
        codesFit(32767, -32767, 1);
        codesFit(-32767, 32767, 1);
        codesFit(32767, 32767, 0);
        codesFit(32767, -32766, 0);
        codesFit(32767, -32768, 0);
        codesFit(-32768, 32767, 0);
        codesFit(-32768, -32768, 0);
        codesFit(-32768, 0, 0);
        codesFit(0, -32768, 0);
        codesFit(0, 0, 0);
        codesFit(1, 1, 0);
        codesFit(1, -2, 0);
    }

    /** FIT, if their HANDS are alike. */
    private static void handsAlike() {
        int[][] hands = {{0, 0, 1}, {15, 15, 1}, {0, 15, 0}, {15, 14, 0}};
        for (int[] row : hands) {
            FilesOpened x = sacks(1);
            x.scrap(0, row[0], Due.edges(0, 9, 9, 0));
            x.scrap(0, row[1], Due.edges(-9, 0, 0, -9));
            due.is("hands " + row[0] + " and " + row[1] + " beside", x.fits(0, 1, 0), row[2]);
            due.is("hands " + row[0] + " and " + row[1] + " below", x.fits(0, 1, 1), row[2]);
            due.is("hand " + row[0], x.scraps(0, 1), row[0]);
            due.is("hand " + row[1], x.scraps(1, 1), row[1]);
        }
    }

    /** The left one's right EDGE, the right one's left; the upper one's down, the lower one's up: no other ones. */
    private static void besideAndBelow() {
        for (int mine = 0; mine < 4; mine++) {
            for (int other = 0; other < 4; other++) {
                FilesOpened x = sacks(1);
                x.scrap(0, 0, 7L << 16 * (3 - mine));
                x.scrap(0, 0, (-7L & 65535) << 16 * (3 - other));
                String edges = "edges " + mine + " and " + other;
                due.is(edges + " beside", x.fits(0, 1, 0), mine == 1 && other == 3 ? 1 : 0);
                due.is(edges + " below", x.fits(0, 1, 1), mine == 2 && other == 0 ? 1 : 0);
            }
        }
    }

    /** 4, 5: sixteen bits each, up the highest, then right, down, left. */
    private static void edgesOfAScrap() {
        FilesOpened x = sacks(1);
        x.scrap(0, 0, 0x7fff80010000ffffL);
        x.scrap(0, 0, 0x8000000180007fffL);
        int[][] want = {{32767, -32767, 0, -1}, {-32768, 1, -32768, 32767}};
        for (int k = 0; k < 2; k++) {
            for (int side = 0; side < 4; side++) {
                due.is("scraps(" + k + ", " + (2 + side) + ")", x.scraps(k, 2 + side), want[k][side]);
            }
        }
    }

    /** 7: no loose SCRAPS, more than 8; w * h as many as they are. */
    private static void oneToEightScraps() {
        FilesOpened x = sacks(1);
        due.is("none", x.lay(0, 1, 1), NONE);
        due.is("none in no shape", x.lay(0, 0, 0), NONE);
        for (int many = 1; many <= 9; many++) {
            x.scrap(0, 0, 0);
            due.is(many + " in a row", x.lay(0, many, 1), many < 9 ? 0 : NONE);
            due.is(many + " in a column", x.lay(0, 1, many), many < 9 ? 0 : NONE);
            due.is(many + " in a longer row", x.lay(0, many + 1, 1), NONE);
            due.is(many + " in a shorter column", x.lay(0, 1, many - 1), NONE);
        }
        due.is("nine as if eight", x.lay(0, 8, 1), NONE);
        due.is("nine in a square", x.lay(0, 3, 3), NONE);
        due.is("ways of the eight", x.laid(0, NONE), 40320);
    }

    private static void shapesOfEight() {
        FilesOpened x = sacks(1);
        for (int i = 0; i < 8; i++) {
            x.scrap(0, 0, 0);
        }
        for (int columns = -1; columns <= 9; columns++) {
            for (int rows = -1; rows <= 9; rows++) {
                due.is(columns + " by " + rows, x.lay(0, columns, rows), columns > 0 && columns * rows == 8 ? 0 : NONE);
            }
        }
        due.is("-1 by -8", x.lay(0, -1, -8), NONE);
        due.is("-2 by -4", x.lay(0, -2, -4), NONE);
        due.is("round 32 bits", x.lay(0, 1 << 29 | 1, 8), NONE);
        due.is("round 32 bits the other way", x.lay(0, 8, 1 << 29 | 1), NONE);
        due.is("round 32 bits below 0", x.lay(0, Integer.MIN_VALUE | 8, 1 | 1 << 29), NONE);
    }

    /** None turned: edges that would fit if one were turned do not. */
    private static void noneTurned() {
        FilesOpened x = sacks(1);
        x.scrap(0, 0, Due.edges(6, 0, 0, 0));
        x.scrap(0, 0, Due.edges(-6, 0, 0, 0));
        due.is("in a row", x.lay(0, 2, 1), 0);
        due.is("in a column", x.lay(0, 1, 2), 0);
        due.is("both ways", x.laid(0, NONE), 2);
    }

    /** All loose SCRAPS of a SACK: not those of a sheet, nor of another sack; those of a torn sheet again. */
    private static void looseOnesAlone() {
        FilesOpened x = sacks(2);
        x.scrap(0, 0, Due.edges(0, 5, 0, 0));
        x.scrap(1, 0, Due.edges(0, 0, 0, -5));
        due.is("alone in sack 0", x.lay(0, 1, 1), 0);
        due.is("no two in it", x.lay(0, 2, 1), NONE);
        due.is("sheet", x.take(0), 0);
        due.is("none is loose", x.lay(0, 1, 1), NONE);
        x.scrap(0, 0, Due.edges(0, 0, 0, -5));
        due.is("a further one", x.lay(0, 1, 1), 0);
        due.is("it alone", x.laid(0, 0), 2);
        due.is("torn", x.tear(0), 1);
        due.is("both are loose", x.lay(0, 2, 1), 1);
        due.is("the first", x.laid(0, 0), 0);
        due.is("the second", x.laid(0, 1), 2);
    }

    private static void ways(FilesOpened x, String name, int many, int[] first, int[] second) {
        due.is(name + ": ways", x.laid(0, NONE), many);
        for (int k = 0; k < 8; k++) {
            due.is(name + ": way 0 at " + k, x.laid(0, k), k < first.length ? first[k] : NONE);
            due.is(name + ": way 1 at " + k, x.laid(1, k), k < second.length ? second[k] : NONE);
        }
        due.is(name + ": way 2", x.laid(2, 0), NONE);
        due.is(name + ": way -1", x.laid(NONE, 0), NONE);
    }

    /** Of several the first: by SCRAPS, row by row; told are the first two. */
    private static void firstByScraps() {
        FilesOpened x = sacks(1);
        x.scrap(0, 0, Due.edges(0, 0, 4, -3));
        x.scrap(0, 0, Due.edges(0, 3, 4, 0));
        x.scrap(0, 0, Due.edges(-4, 0, 0, 0));
        x.scrap(0, 0, Due.edges(-4, 0, 0, 0));
        due.is("square", x.lay(0, 2, 2), 3);
        ways(x, "square", 2, new int[] {1, 0, 2, 3}, new int[] {1, 0, 3, 2});
        due.is("row", x.lay(0, 4, 1), 1);
        ways(x, "row", 6, new int[] {1, 0, 2, 3}, new int[] {1, 0, 3, 2});
        due.is("column", x.lay(0, 1, 4), 2);
        ways(x, "column", 4, new int[] {0, 2, 1, 3}, new int[] {0, 3, 1, 2});
    }

    /** Where nothing fits, all ways are as good: the second one turns the last two scraps round. */
    private static void allWaysAlike() {
        FilesOpened x = sacks(1);
        int many = 1;
        for (int n = 1; n <= 8; n++) {
            x.scrap(0, 0, 0);
            many *= n;
            int[] first = new int[n];
            for (int k = 0; k < n; k++) {
                first[k] = k;
            }
            int[] second = n == 1 ? new int[0] : first.clone();
            if (n > 1) {
                second[n - 2] = n - 1;
                second[n - 1] = n - 2;
            }
            due.is(n + " in a row", x.lay(0, n, 1), 0);
            ways(x, n + " in a row", many, first, second);
        }
    }

    /** Where everything fits, all ways are as good, too: a FIT for each two that are beside one another. */
    private static void allWaysFitAlike() {
        FilesOpened x = sacks(1);
        int many = 1;
        for (int n = 1; n <= 8; n++) {
            x.scrap(0, 0, Due.edges(-7, 9, 7, -9));
            many *= n;
            for (int columns = 1; columns <= n; columns++) {
                int rows = n / columns;
                if (columns * rows == n) {
                    String shape = columns + " by " + rows;
                    due.is(shape, x.lay(0, columns, rows), rows * (columns - 1) + columns * (rows - 1));
                    due.is(shape + ": ways", x.laid(0, NONE), many);
                    due.is(shape + ": first", x.laid(0, n - 1), n - 1);
                    due.is(shape + ": second", x.laid(1, n - 1), n == 1 ? NONE : n - 2);
                }
            }
        }
    }

    /** Each joint is a FIT of its own, also of a scrap that has one on its left and one above it. */
    private static void besideAndBelowAtOnce() {
        FilesOpened x = sacks(1);
        x.scrap(0, 0, Due.edges(-2, 0, 0, -3));
        x.scrap(0, 0, Due.edges(-4, 3, 0, 0));
        x.scrap(0, 0, Due.edges(0, 0, 2, -1));
        x.scrap(0, 0, Due.edges(0, 1, 4, 0));
        due.is("four joints", x.lay(0, 2, 2), 4);
        ways(x, "four joints", 1, new int[] {3, 2, 1, 0}, new int[0]);
        x.scrap(0, 0, Due.edges(0, 0, 0, 0));
        x.scrap(0, 0, Due.edges(0, 0, 0, 0));
        due.is("of six, in three columns", x.lay(0, 3, 2), 4);
        ways(x, "of six", 4, new int[] {3, 2, 4, 1, 0, 5}, new int[] {3, 2, 5, 1, 0, 4});
    }

    /** A laying has nothing of the one ahead of it. */
    private static void layingAfterLaying() {
        FilesOpened x = sacks(2);
        x.scrap(0, 0, Due.edges(0, 1, 2, 0));
        x.scrap(0, 0, Due.edges(-2, 0, 0, -1));
        x.scrap(0, 0, 0);
        x.scrap(0, 0, 0);
        for (int i = 0; i < 4; i++) {
            x.scrap(1, 0, Due.edges(0, 0, i == 3 ? 7 : 0, i == 2 ? -7 : 0));
        }
        int[][] shapes = {{4, 1}, {1, 4}, {2, 2}};
        for (int[] shape : shapes) {
            due.is("sack 0, " + shape[0] + " columns", x.lay(0, shape[0], shape[1]), 1);
            due.is("sack 1, " + shape[0] + " columns", x.lay(1, shape[0], shape[1]), 0);
            ways(x, "sack 1", 24, new int[] {4, 5, 6, 7}, new int[] {4, 5, 7, 6});
        }
    }

    /** How many ways are as good: k NONE, whatever way is. */
    private static void waysAsGood() {
        FilesOpened x = sacks(1);
        due.is("not laid", x.laid(0, NONE), NONE);
        due.is("not laid, way 5", x.laid(5, NONE), NONE);
        x.scrap(0, 0, Due.edges(0, 1, 0, -1));
        x.scrap(0, 0, Due.edges(0, 1, 0, -1));
        due.is("lay", x.lay(0, 2, 1), 1);
        for (int way : new int[] {Integer.MIN_VALUE, -1, 0, 1, 2, Integer.MAX_VALUE}) {
            due.is("way " + way, x.laid(way, NONE), 2);
        }
        due.is("a column", x.lay(0, 1, 2), 0);
        ways(x, "column", 2, new int[] {0, 1}, new int[] {1, 0});
        x.scrap(0, 1, 0);
        due.is("a row of three", x.lay(0, 3, 1), 1);
        ways(x, "three", 4, new int[] {0, 1, 2}, new int[] {1, 0, 2});
        x.tear(x.take(0));
        due.is("taken and torn, it stays", x.laid(0, NONE), 4);
        FilesOpened y = sacks(1);
        y.scrap(0, 0, 0);
        due.is("one", y.lay(0, 1, 1), 0);
        ways(y, "one", 1, new int[] {0}, new int[0]);
        due.is("no second way to take", y.take(1), NONE);
        due.is("the only way", y.take(0), 0);
    }

    /** Of the latest lay() that was not NONE. */
    private static void refusedLayingStays() {
        FilesOpened x = sacks(2);
        x.scrap(0, 0, Due.edges(0, 0, 0, -1));
        x.scrap(0, 0, Due.edges(0, 1, 0, 0));
        x.lay(0, 2, 1);
        due.is("no such sack", x.lay(2, 2, 1), NONE);
        due.is("an empty sack", x.lay(1, 1, 1), NONE);
        due.is("another shape", x.lay(0, 1, 1), NONE);
        ways(x, "stays", 1, new int[] {1, 0}, new int[0]);
        due.is("taken", x.take(0), 0);
        due.is("none is loose", x.lay(0, 2, 1), NONE);
        ways(x, "stays when taken", 1, new int[] {1, 0}, new int[0]);
    }

    /** 9: columns * rows of them, 1 to 8; NONE without these, one twice, or for another shape. */
    private static void judgedRows() {
        FilesOpened x = sacks(2);
        for (int i = 0; i < 9; i++) {
            x.scrap(i % 2, 0, Due.edges(-1, 2, 1, -2));
        }
        long eight = Due.packed(8, 0, 1, 2, 3, 4, 5, 6, 7);
        int[][] shapes = {{1, 1, 0}, {8, 1, 7}, {1, 8, 7}, {4, 2, 10}, {2, 4, 10}, {7, 1, 6}, {2, 3, 7}, {3, 2, 7},
            {2, 2, 4}, {9, 1, NONE}, {1, 9, NONE}, {3, 3, NONE}, {5, 2, NONE}, {0, 1, NONE}, {1, 0, NONE}, {0, 0, NONE},
            {-1, -1, NONE}, {-2, -4, NONE}, {-8, 1, NONE}, {1 << 31 | 1, 1, NONE}, {1 << 16, 1 << 16, NONE}};
        for (int[] shape : shapes) {
            due.is("judged " + shape[0] + " by " + shape[1], x.judged(shape[0], shape[1], eight), shape[2]);
        }
        due.is("the last twice the first", x.judged(8, 1, Due.packed(8, 0, 1, 2, 3, 4, 5, 6, 0)), NONE);
        due.is("twice beside one another", x.judged(2, 1, Due.packed(8, 8, 8)), NONE);
        due.is("the last is none", x.judged(8, 1, Due.packed(8, 0, 1, 2, 3, 4, 5, 6, 9)), NONE);
        due.is("the highest byte", x.judged(8, 1, Due.packed(8, 0, 1, 2, 3, 4, 5, 6, 255)), NONE);
        due.is("scrap 8", x.judged(8, 1, Due.packed(8, 0, 1, 2, 3, 4, 5, 6, 8)), 7);
        x.lay(1, 4, 1);
        x.take(0);
        due.is("loose or not", x.judged(8, 1, eight), 7);
        due.is("no laying of it", x.laid(0, 0), 1);
    }

    /** 10: a SCRAP that is not loose; no such way. */
    private static void takenIfLoose() {
        FilesOpened x = sacks(1);
        due.is("no laying", x.take(0), NONE);
        x.scrap(0, 0, 0);
        due.is("no laying yet", x.take(0), NONE);
        x.scrap(0, 0, 0);
        x.lay(0, 2, 1);
        due.is("way 2", x.take(2), NONE);
        due.is("way -1", x.take(NONE), NONE);
        due.is("way 0", x.take(0), 0);
        due.is("not loose, way 0", x.take(0), NONE);
        due.is("not loose, way 1", x.take(1), NONE);
        due.is("one sheet", x.count(4), 1);
        x.tear(0);
        due.is("loose again, way 1", x.take(1), 1);
        due.is("of sheet 1", x.scraps(0, 6), 1);
        due.is("sheet 0 was made of", x.sheets(0, 3), 2);
        due.is("torn, it has none any more", x.tear(0), NONE);
        due.is("they are of sheet 1 alone", x.tear(1), 2);
        FilesOpened y = sacks(1);
        y.scrap(0, 0, 0);
        y.lay(0, 1, 1);
        due.is("one alone", y.take(0), 0);
        due.is("one alone, not loose", y.take(0), NONE);
    }

    private static void takenSecondWay() {
        FilesOpened x = sacks(1);
        x.scrap(0, 0, 0);
        x.scrap(0, 0, 0);
        x.lay(0, 1, 2);
        x.scrap(0, 0, 0);
        x.clock(7);
        due.is("take(1)", x.take(1), 0);
        due.is("scraps of it", x.sheets(0, 3), 2);
        due.is("it came", x.sheets(0, 0), 7);
        due.is("closed", x.sheets(0, 1), NONE);
        due.is("loose ones", x.count(3), 1);
        due.is("scrap 2 is not of it", x.scraps(2, 6), NONE);
    }

    /** 12: how many SCRAPS are loose again; none such, TORN already. */
    private static void tornOnce() {
        FilesOpened x = sacks(1);
        x.scrap(0, 0, 0);
        x.lay(0, 1, 1);
        x.take(0);
        x.sheet();
        for (int i = 0; i < 8; i++) {
            x.scrap(0, 0, 0);
        }
        x.lay(0, 4, 2);
        x.take(0);
        due.is("none such", x.tear(3), NONE);
        due.is("one", x.tear(0), 1);
        due.is("a whole one", x.tear(1), 0);
        due.is("eight", x.tear(2), 8);
        for (int i = 0; i < 3; i++) {
            due.is("already " + i, x.tear(i), NONE);
        }
        due.is("all are loose", x.count(3), 9);
        due.is("sheets", x.count(4), 3);
    }

    /** 13: none such, TORN, or open. */
    private static void openedOnce() {
        FilesOpened x = new FilesOpened();
        x.sheet();
        x.sheet();
        x.sheet();
        x.tear(2);
        x.clock(3999);
        due.yes("on the last day", x.open(0));
        due.is("open from", x.sheets(0, 1), 3999);
        due.no("open", x.open(0));
        due.no("torn", x.open(2));
        due.is("torn, it never was open", x.sheets(2, 1), NONE);
        due.no("none such", x.open(3));
        due.is("the other is closed", x.sheets(1, 1), NONE);
        x.tear(0);
        due.no("torn and open", x.open(0));
    }

    /** 14: REPORTS, BILLS (all that it ever bore), LINES; the days. */
    private static void ofASheet() {
        FilesOpened x = new FilesOpened();
        x.person(NONE);
        x.cover(0);
        x.clock(1);
        x.sheet();
        x.sheet();
        x.clock(2);
        x.open(0);
        for (int what = 3; what <= 6; what++) {
            due.is("none at first, " + what, x.sheets(0, what), 0);
        }
        x.report(0, 0, 0, 0, 0, 0, 0);
        due.is("refused report", x.report(0, 1, 0, 0, 0, 0, 0), NONE);
        x.bill(0, 0, 1, 0);
        due.is("refused bill", x.bill(0, 0, 0, 0), NONE);
        x.line(0, 0, 1, 0);
        due.is("refused line", x.line(0, 0, 0, 0), NONE);
        x.fall(0);
        x.clock(3);
        x.tear(0);
        int[] want = {1, 2, 3, 0, 1, 1, 1};
        int[] other = {1, NONE, NONE, 0, 0, 0, 0};
        for (int what = 0; what <= 6; what++) {
            due.is("sheets(0, " + what + ")", x.sheets(0, what), want[what]);
            due.is("sheets(1, " + what + ")", x.sheets(1, what), other[what]);
        }
    }
}
