import java.util.NoSuchElementException;

/**
 * Each promise by examples worked out by hand: ordinary inputs, the edges that the document names,
 * wrong inputs. In the grid of 2 by 2 cells the sides of the cells are 0 1 3 5, 2 3 4 7 (above),
 * 5 6 8 10 and 7 8 9 11 (below).
 */
final class PromiseTest {
    private static final Class<IndexOutOfBoundsException> OUT = IndexOutOfBoundsException.class;
    private static final Class<NoSuchElementException> NO_SUCH = NoSuchElementException.class;
    private static final Class<IllegalArgumentException> WRONG = IllegalArgumentException.class;
    private static final Class<IllegalStateException> STATE = IllegalStateException.class;
    private static final int LEAST = Integer.MIN_VALUE;
    private static final int MOST = Integer.MAX_VALUE;

    /** The solutions of the grid of 2 by 2 cells without clues, by rank. */
    private static final int[][] RANKED = {
        {7, 8, 9, 11},
        {5, 6, 8, 10},
        {5, 6, 7, 9, 10, 11},
        {2, 3, 4, 8, 9, 11},
        {2, 3, 4, 7},
        {2, 3, 4, 5, 6, 9, 10, 11},
        {0, 1, 3, 6, 8, 10},
        {0, 1, 3, 6, 7, 9, 10, 11},
        {0, 1, 3, 5},
        {0, 1, 2, 4, 6, 9, 10, 11},
        {0, 1, 2, 4, 6, 7, 8, 10},
        {0, 1, 2, 4, 5, 8, 9, 11},
        {0, 1, 2, 4, 5, 7},
    };

    private static LoopDiagram grid() {
        return new LoopDiagram(2, 2);
    }

    private static void drawAll(LoopDiagram x, int... edges) {
        for (int edge : edges) {
            x.draw(edge);
        }
    }

    private static boolean holds(int[] edges, int edge) {
        for (int each : edges) {
            if (each == edge) {
                return true;
            }
        }
        return false;
    }

    static void promise01SizesOutsideTheRangesBecomeTwo() {
        int[] wrongRows = {LEAST, -1, 0, 5, 6, MOST};
        for (int rows : wrongRows) {
            Check.same("edges() of rows " + rows, new LoopDiagram(rows, 3).edges(), 3 * 3 + 2 * 4);
        }
        int[] wrongColumns = {LEAST, -1, 0, 4, 5, MOST};
        for (int columns : wrongColumns) {
            Check.same("edges() of columns " + columns, new LoopDiagram(4, columns).edges(), 5 * 2 + 4 * 3);
        }
        Check.same("edges() of both wrong", new LoopDiagram(0, 4).edges(), 12);
    }

    static void promise01NewObjectHasNoCluesAndAnEmptyDrawing() {
        for (int rows = 1; rows <= 4; rows++) {
            for (int columns = 1; columns <= 3; columns++) {
                LoopDiagram x = new LoopDiagram(rows, columns);
                for (int r = 0; r < rows; r++) {
                    for (int c = 0; c < columns; c++) {
                        Check.same("clueOf", x.clueOf(r, c), LoopDiagram.NONE);
                    }
                }
                Check.same("drawn()", x.drawn(), 0);
                int r = rows;
                int c = columns;
                Check.fails("clueOf below", OUT, () -> x.clueOf(r, 0));
                Check.fails("clueOf beside", OUT, () -> x.clueOf(0, c));
            }
        }
    }

    static void promise02EdgesOfAllSizes() {
        int[][] due = {{4, 7, 10}, {7, 12, 17}, {10, 17, 24}, {13, 22, 31}};
        for (int rows = 1; rows <= 4; rows++) {
            for (int columns = 1; columns <= 3; columns++) {
                Check.same("edges()", new LoopDiagram(rows, columns).edges(), due[rows - 1][columns - 1]);
            }
        }
    }

    static void promise03PointsOfAllEdges() {
        int[][] ends = {{0, 1}, {0, 3}, {1, 2}, {1, 4}, {2, 5}, {3, 4}, {3, 6}, {4, 5}, {4, 7}, {5, 8},
            {6, 7}, {7, 8}};
        for (int edge = 0; edge < ends.length; edge++) {
            Check.same("point(" + edge + ", false)", grid().point(edge, false), ends[edge][0]);
            Check.same("point(" + edge + ", true)", grid().point(edge, true), ends[edge][1]);
        }
        LoopDiagram wide = new LoopDiagram(1, 3);
        Check.same("point(6, false)", wide.point(6, false), 3);
        Check.same("point(6, true)", wide.point(6, true), 7);
        Check.same("point(9, true)", wide.point(9, true), 7);
        Check.same("point(30, true)", new LoopDiagram(4, 3).point(30, true), 19);
    }

    static void promise03NoSuchEdge() {
        for (int edge : new int[] {LEAST, -1, 12, 13, 31, 32, MOST}) {
            Check.fails("point(" + edge + ", false)", OUT, () -> grid().point(edge, false));
            Check.fails("point(" + edge + ", true)", OUT, () -> grid().point(edge, true));
        }
        Check.fails("point(31)", OUT, () -> new LoopDiagram(4, 3).point(31, true));
    }

    static void promise04ClueIsSetChangedAndTakenAway() {
        LoopDiagram x = grid();
        // All sides of a cell are a loop, of which its neighbour has one side.
        x.clue(0, 0, 4);
        Check.same("clueOf(0, 0)", x.clueOf(0, 0), 4);
        Check.same("count()", x.count(), 1);
        x.clue(0, 1, 1);
        Check.same("count()", x.count(), 1);
        x.clue(0, 1, 2);
        Check.same("count()", x.count(), 0);
        x.clue(0, 0, 0);
        Check.same("clueOf(0, 0)", x.clueOf(0, 0), 0);
        Check.same("count()", x.count(), 0);
        x.clue(0, 1, 1);
        Check.same("clueOf(0, 1)", x.clueOf(0, 1), 1);
        Check.same("count()", x.count(), 1);
        x.clue(0, 1, -1);
        Check.same("clueOf(0, 1)", x.clueOf(0, 1), -1);
        Check.same("count()", x.count(), 1);
        x.clue(0, 0, -1);
        Check.same("count()", x.count(), 13);
    }

    static void promise04WrongCellsAndValues() {
        LoopDiagram x = grid();
        x.clue(0, 0, 2);
        int[][] cells = {{-1, 0}, {0, -1}, {2, 0}, {0, 2}, {LEAST, 0}, {0, LEAST}, {MOST, 1}, {1, MOST}};
        for (int[] cell : cells) {
            Check.fails("clue of no cell", OUT, () -> x.clue(cell[0], cell[1], 2));
            Check.fails("clue of no cell, wrong value", OUT, () -> x.clue(cell[0], cell[1], 5));
        }
        for (int value : new int[] {LEAST, -2, 5, MOST}) {
            Check.fails("clue " + value, WRONG, () -> x.clue(0, 0, value));
        }
        Check.same("clueOf(0, 0)", x.clueOf(0, 0), 2);
    }

    static void promise05CountOfAllSizes() {
        int[][] due = {{1, 3, 6}, {3, 13, 40}, {6, 40, 213}, {10, 108, 1049}};
        for (int rows = 1; rows <= 4; rows++) {
            for (int columns = 1; columns <= 3; columns++) {
                Check.same("count()", new LoopDiagram(rows, columns).count(), due[rows - 1][columns - 1]);
            }
        }
    }

    static void promise05CountWithClues() {
        LoopDiagram x = grid();
        x.clue(0, 0, 3);
        // Ranks 6, 7, 11 and 12: the cell is inside with one neighbour, the opposite cell may be too.
        Check.same("count() with a 3", x.count(), 4);
        x.clue(1, 1, 0);
        Check.same("count() with a 0 opposite", x.count(), 0);
        x.clue(0, 0, 4);
        Check.same("count() with a 4 and a 0", x.count(), 1);
    }

    static void promise06WidthOfEachLevel() {
        LoopDiagram x = new LoopDiagram(1, 1);
        int[] due = {1, 2, 2, 2, 1};
        for (int k = 0; k <= 4; k++) {
            Check.same("width(" + k + ", false)", x.width(k, false), due[k]);
        }
        // The empty beginning of length 2 or 3 is alive, but no more to be saved.
        int[] useful = {1, 1, 1, 1, 1};
        for (int k = 0; k <= 4; k++) {
            Check.same("width(" + k + ", true)", x.width(k, true), useful[k]);
        }
    }

    static void promise06WidthWithoutSolution() {
        LoopDiagram x = new LoopDiagram(1, 1);
        x.clue(0, 0, 3);
        int[] due = {1, 2, 2, 2, 0};
        for (int k = 0; k <= 4; k++) {
            Check.same("width(" + k + ", false)", x.width(k, false), due[k]);
            Check.same("width(" + k + ", true)", x.width(k, true), 0);
        }
    }

    static void promise06NoSuchLevel() {
        for (int k : new int[] {LEAST, -1, 13, 14, MOST}) {
            Check.fails("width(" + k + ", false)", OUT, () -> grid().width(k, false));
            Check.fails("width(" + k + ", true)", OUT, () -> grid().width(k, true));
        }
    }

    static void promise07NodesOfAllSizes() {
        int[][] due = {{8, 21, 47}, {17, 55, 146}, {28, 91, 250}, {39, 127, 354}};
        for (int rows = 1; rows <= 4; rows++) {
            for (int columns = 1; columns <= 3; columns++) {
                LoopDiagram x = new LoopDiagram(rows, columns);
                Check.same("nodes()", x.nodes(), due[rows - 1][columns - 1]);
                int sum = 0;
                for (int k = 0; k <= x.edges(); k++) {
                    sum += x.width(k, false);
                }
                Check.same("the widths together", sum, x.nodes());
            }
        }
    }

    static void promise07NodesChangeWithTheClues() {
        LoopDiagram x = new LoopDiagram(1, 1);
        x.clue(0, 0, 0);
        // Only the empty beginning keeps to the clue, and for the whole grid it is none.
        Check.same("nodes()", x.nodes(), 4);
        x.clue(0, 0, -1);
        Check.same("nodes()", x.nodes(), 8);
    }

    static void promise08EdgesOfAllSolutions() {
        LoopDiagram x = grid();
        for (int k = 0; k < RANKED.length; k++) {
            for (int edge = 0; edge < 12; edge++) {
                Check.same("has(" + k + ", " + edge + ")", x.has(k, edge), holds(RANKED[k], edge));
            }
        }
    }

    static void promise08NoSuchSolutionIsSaidBeforeNoSuchEdge() {
        LoopDiagram x = grid();
        for (int k : new int[] {LEAST, -1, 13, 14, MOST}) {
            Check.fails("has(" + k + ", 0)", NO_SUCH, () -> x.has(k, 0));
            Check.fails("has(" + k + ", 12)", NO_SUCH, () -> x.has(k, 12));
            Check.fails("has(" + k + ", -1)", NO_SUCH, () -> x.has(k, -1));
        }
        for (int edge : new int[] {LEAST, -1, 12, 32, MOST}) {
            Check.fails("has(12, " + edge + ")", OUT, () -> x.has(12, edge));
        }
    }

    static void promise09LengthOfAllSolutions() {
        LoopDiagram x = grid();
        for (int k = 0; k < RANKED.length; k++) {
            Check.same("length(" + k + ")", x.length(k), RANKED[k].length);
        }
        for (int k : new int[] {LEAST, -1, 13, 14, MOST}) {
            Check.fails("length(" + k + ")", NO_SUCH, () -> x.length(k));
        }
        x.clue(0, 0, 4);
        Check.same("length(0)", x.length(0), 4);
        Check.fails("length(1)", NO_SUCH, () -> x.length(1));
        x.clue(0, 1, 4);
        Check.fails("length(0)", NO_SUCH, () -> x.length(0));
    }

    static void promise10OftenOfAllEdges() {
        LoopDiagram x = grid();
        drawAll(x, 0, 4, 11);
        for (int edge = 0; edge < 12; edge++) {
            int due = 0;
            for (int[] solution : RANKED) {
                due += holds(solution, edge) ? 1 : 0;
            }
            Check.same("often(" + edge + ")", x.often(edge), due);
        }
        Check.same("count()", x.count(), 13);
        for (int edge : new int[] {LEAST, -1, 12, 13, 32, MOST}) {
            Check.fails("often(" + edge + ")", OUT, () -> x.often(edge));
        }
        x.clue(0, 0, 4);
        Check.same("often(5)", x.often(5), 1);
        Check.same("often(6)", x.often(6), 0);
    }

    static void promise10OftenInTheLargestGrid() {
        LoopDiagram x = new LoopDiagram(4, 3);
        Check.same("often(16)", x.often(16), 338);
        Check.same("often(30)", x.often(30), x.often(0));
        Check.fails("often(31)", OUT, () -> x.often(31));
    }

    static void promise11DrawPutsInAndTakesOut() {
        LoopDiagram x = new LoopDiagram(4, 3);
        for (int edge = 0; edge < 31; edge++) {
            Check.same("draw(" + edge + ")", x.draw(edge), true);
        }
        Check.same("drawn()", x.drawn(), 31);
        for (int edge = 0; edge < 31; edge++) {
            Check.same("draw(" + edge + ") again", x.draw(edge), false);
            Check.same("drawn()", x.drawn(), 30 - edge);
        }
        for (int edge : new int[] {LEAST, -1, 31, 32, 63, MOST}) {
            Check.fails("draw(" + edge + ")", OUT, () -> x.draw(edge));
        }
        Check.same("drawn()", x.drawn(), 0);
    }

    static void promise12CopyOfAllSolutions() {
        LoopDiagram x = grid();
        x.draw(3);
        for (int k = 0; k < RANKED.length; k++) {
            x.copy(k);
            Check.same("drawn()", x.drawn(), RANKED[k].length);
            Check.same("rank()", x.rank(), k);
            for (int edge = 0; edge < 12; edge++) {
                Check.same("draw(" + edge + ")", x.draw(edge), !holds(RANKED[k], edge));
                x.draw(edge);
            }
        }
        for (int k : new int[] {LEAST, -1, 13, MOST}) {
            Check.fails("copy(" + k + ")", NO_SUCH, () -> x.copy(k));
            Check.same("rank() behind it", x.rank(), 12);
        }
    }

    static void promise13DrawnCountsTheEdges() {
        LoopDiagram x = grid();
        Check.same("drawn()", x.drawn(), 0);
        drawAll(x, 0, 5, 11);
        Check.same("drawn()", x.drawn(), 3);
        x.draw(5);
        Check.same("drawn()", x.drawn(), 2);
        x.clue(0, 0, 4);
        Check.same("drawn() with a clue", x.drawn(), 2);
        x.copy(0);
        Check.same("drawn() of a copy", x.drawn(), 4);
    }

    static void promise14LoopsAndOthers() {
        LoopDiagram x = grid();
        Check.same("isLoop() of nothing", x.isLoop(), false);
        drawAll(x, 0, 1, 3);
        Check.same("isLoop() of a path", x.isLoop(), false);
        x.draw(5);
        Check.same("isLoop() of a cell", x.isLoop(), true);
        x.draw(11);
        Check.same("isLoop() with an edge beside it", x.isLoop(), false);
        drawAll(x, 7, 8, 9);
        Check.same("isLoop() of two cells that touch", x.isLoop(), false);
        drawAll(x, 0, 1, 3, 5);
        Check.same("isLoop() of the other", x.isLoop(), true);
        x.clue(1, 1, 0);
        Check.same("isLoop() against a clue", x.isLoop(), true);
    }

    static void promise14TwoLoopsAreNone() {
        LoopDiagram x = new LoopDiagram(1, 3);
        drawAll(x, 0, 1, 3, 7, 4, 5, 6, 9);
        Check.same("drawn()", x.drawn(), 8);
        Check.same("isLoop() of two cells apart", x.isLoop(), false);
        LoopDiagram y = new LoopDiagram(4, 3);
        drawAll(y, 0, 1, 3, 7, 30, 29, 27, 23);
        Check.same("isLoop() of two cells far apart", y.isLoop(), false);
    }

    static void promise15RankOfTheDrawing() {
        LoopDiagram x = grid();
        Check.fails("rank() of nothing", NO_SUCH, x::rank);
        drawAll(x, 0, 1, 3);
        Check.fails("rank() of a path", NO_SUCH, x::rank);
        x.draw(5);
        Check.same("rank() of a cell", x.rank(), 8);
        x.clue(0, 0, 4);
        Check.same("rank() as the only one", x.rank(), 0);
        x.clue(0, 1, 2);
        Check.fails("rank() against a clue", NO_SUCH, x::rank);
        x.clue(0, 1, 1);
        x.draw(11);
        Check.fails("rank() with an edge beside it", NO_SUCH, x::rank);
    }

    static void promise16AboveCountsTheSolutionsWithAllEdges() {
        LoopDiagram x = grid();
        Check.same("above() of nothing", x.above(), 13);
        x.draw(0);
        Check.same("above() of 0", x.above(), 7);
        x.draw(3);
        Check.same("above() of 0 3", x.above(), 3);
        x.draw(2);
        Check.same("above() of a fork", x.above(), 0);
        x.draw(3);
        Check.same("above() of 0 2", x.above(), 4);
        x.copy(9);
        Check.same("above() of a solution", x.above(), 1);
        x.clue(0, 0, 2);
        Check.same("above() with a clue that fits", x.above(), 1);
        x.clue(0, 0, 1);
        Check.same("above() against a clue", x.above(), 0);
    }

    static void promise17AliveOfTheDrawing() {
        LoopDiagram x = grid();
        Check.same("alive() of nothing", x.alive(), 11);
        x.draw(0);
        Check.same("alive() of a loose end", x.alive(), 1);
        x.draw(1);
        Check.same("alive() of a corner", x.alive(), 3);
        x.draw(3);
        Check.same("alive() of a path", x.alive(), 6);
        x.draw(5);
        Check.same("alive() of a loop", x.alive(), 12);
        x.draw(11);
        Check.same("alive() with an edge beside it", x.alive(), 11);
        x.draw(6);
        Check.same("alive() with a fork", x.alive(), 6);
    }

    static void promise17AliveLooksAtClues() {
        LoopDiagram x = grid();
        x.copy(8);
        x.clue(0, 0, 3);
        Check.same("alive() with too many sides", x.alive(), 5);
        x.clue(0, 0, 4);
        x.clue(1, 1, 1);
        Check.same("alive() with too few sides", x.alive(), 11);
        x.clue(1, 1, 0);
        Check.same("alive() of a solution", x.alive(), 12);
        x.clue(0, 1, 0);
        Check.same("alive() with one side too many", x.alive(), 3);
    }

    static void promise17AliveWithTwoPathsWhenOneCloses() {
        LoopDiagram x = new LoopDiagram(1, 3);
        // The paths 0 1 3 and 4 5 6 are open when the last side of the first cell closes it.
        drawAll(x, 0, 1, 3, 4, 5, 6, 7);
        Check.same("alive()", x.alive(), 7);
    }

    static void promise18SpareTakesAwayWhatItCan() {
        LoopDiagram x = grid();
        x.clue(0, 0, 4);
        x.clue(0, 1, 1);
        x.clue(1, 0, 1);
        x.clue(1, 1, 0);
        // The 0 alone would do, so all that come before it go.
        for (int times = 0; times < 2; times++) {
            Check.same("spare()", x.spare(), 1);
            Check.same("count()", x.count(), 1);
            Check.same("clueOf(0, 0)", x.clueOf(0, 0), -1);
            Check.same("clueOf(0, 1)", x.clueOf(0, 1), -1);
            Check.same("clueOf(1, 0)", x.clueOf(1, 0), -1);
            Check.same("clueOf(1, 1)", x.clueOf(1, 1), 0);
        }
    }

    static void promise18SpareGoesRowByRow() {
        LoopDiagram x = grid();
        x.clue(0, 0, 0);
        x.clue(1, 1, 4);
        Check.same("spare()", x.spare(), 1);
        Check.same("clueOf(0, 0)", x.clueOf(0, 0), -1);
        Check.same("clueOf(1, 1)", x.clueOf(1, 1), 4);
        x.clue(0, 0, 4);
        x.clue(1, 1, 0);
        Check.same("spare()", x.spare(), 1);
        Check.same("clueOf(0, 0)", x.clueOf(0, 0), -1);
        Check.same("clueOf(1, 1)", x.clueOf(1, 1), 0);
    }

    static void promise18SpareMayLeaveNoClue() {
        LoopDiagram x = new LoopDiagram(1, 1);
        Check.same("spare() without clues", x.spare(), 0);
        x.clue(0, 0, 4);
        Check.same("spare()", x.spare(), 0);
        Check.same("clueOf(0, 0)", x.clueOf(0, 0), -1);
    }

    static void promise18NotJustOneSolution() {
        LoopDiagram x = grid();
        Check.fails("spare() with 13", STATE, x::spare);
        x.clue(0, 0, 4);
        x.clue(0, 1, 4);
        Check.fails("spare() with none", STATE, x::spare);
        Check.same("clueOf(0, 0)", x.clueOf(0, 0), 4);
        Check.same("clueOf(0, 1)", x.clueOf(0, 1), 4);
    }

    static void promise18SpareLeavesTheDrawing() {
        LoopDiagram x = grid();
        x.draw(2);
        x.clue(0, 0, 4);
        x.spare();
        Check.same("drawn()", x.drawn(), 1);
    }

    static void promise19ClueOfEachCell() {
        LoopDiagram x = new LoopDiagram(4, 3);
        for (int cell = 0; cell < 12; cell++) {
            x.clue(cell / 3, cell % 3, cell % 6 - 1);
        }
        for (int cell = 0; cell < 12; cell++) {
            Check.same("clueOf of cell " + cell, x.clueOf(cell / 3, cell % 3), cell % 6 - 1);
        }
        int[][] cells = {{-1, 0}, {0, -1}, {4, 0}, {0, 3}, {LEAST, 0}, {0, LEAST}, {MOST, 1}, {1, MOST}};
        for (int[] cell : cells) {
            Check.fails("clueOf of no cell", OUT, () -> x.clueOf(cell[0], cell[1]));
        }
    }
}
