/**
 * Each promise by ordinary examples worked out by hand; the boundaries are BoundaryTest's. In the
 * grid of 2 by 2 cells the sides of the cells are 0 1 3 5, 2 3 4 7 (above), 5 6 8 10 and 7 8 9 11.
 */
final class PromiseTest {
    /** The solutions of the grid of 2 by 2 cells without clues, by rank. */
    private static final int[][] RANKED = {
        {7, 8, 9, 11},
        {5, 6, 8, 10},
        {5, 6, 7, 9, 10, 11},
        {2, 3, 4, 8, 9, 11},
        {2, 3, 4, 7},
        {2, 3, 4, 5, 6, 9, 10, 11},
        {0, 1, 3, 6, 8, 10},
        {0, 1, 3, 6, 7, 9, 10, 11},
        {0, 1, 3, 5},
        {0, 1, 2, 4, 6, 9, 10, 11},
        {0, 1, 2, 4, 6, 7, 8, 10},
        {0, 1, 2, 4, 5, 8, 9, 11},
        {0, 1, 2, 4, 5, 7},
    };

    private static boolean holds(int[] edges, int edge) {
        for (int each : edges) {
            if (each == edge) {
                return true;
            }
        }
        return false;
    }

    static void promise01SizesAreRowsAndThenColumns() {
        LoopDiagram x = new LoopDiagram(3, 1);
        x.clue(2, 0, 1);
        Check.same("clueOf(2, 0)", x.clueOf(2, 0), 1);
        Check.fails("clueOf(0, 1)", Check.OUT, () -> x.clueOf(0, 1));
    }

    static void promise02EdgesOfAllSizes() {
        int[][] due = {{4, 7, 10}, {7, 12, 17}, {10, 17, 24}, {13, 22, 31}};
        Grids.onAllSizes((x, rows, columns) -> Check.same("edges()", x.edges(), due[rows - 1][columns - 1]));
    }

    static void promise03PointsOfAllEdges() {
        int[][] ends = {{0, 1}, {0, 3}, {1, 2}, {1, 4}, {2, 5}, {3, 4}, {3, 6}, {4, 5}, {4, 7}, {5, 8},
            {6, 7}, {7, 8}};
        LoopDiagram x = Grids.square();
        for (int edge = 0; edge < ends.length; edge++) {
            Check.same("point(" + edge + ", false)", x.point(edge, false), ends[edge][0]);
            Check.same("point(" + edge + ", true)", x.point(edge, true), ends[edge][1]);
        }
        LoopDiagram wide = new LoopDiagram(1, 3);
        Check.same("point(6, false)", wide.point(6, false), 3);
        Check.same("point(6, true)", wide.point(6, true), 7);
        Check.same("point(9, true)", wide.point(9, true), 7);
    }

    static void promise04ClueIsSetChangedAndTakenAway() {
        LoopDiagram x = Grids.square();
        // All sides of a cell are a loop, of which its neighbour has one side.
        x.clue(0, 0, 4);
        Check.same("clueOf(0, 0)", x.clueOf(0, 0), 4);
        Check.same("count()", x.count(), 1);
        x.clue(0, 1, 1);
        Check.same("count()", x.count(), 1);
        x.clue(0, 1, 2);
        Check.same("count()", x.count(), 0);
        x.clue(0, 0, 0);
        Check.same("clueOf(0, 0)", x.clueOf(0, 0), 0);
        Check.same("count()", x.count(), 0);
        x.clue(0, 1, 1);
        Check.same("clueOf(0, 1)", x.clueOf(0, 1), 1);
        Check.same("count()", x.count(), 1);
        x.clue(0, 1, -1);
        Check.same("clueOf(0, 1)", x.clueOf(0, 1), -1);
        Check.same("count()", x.count(), 1);
        x.clue(0, 0, -1);
        Check.same("count()", x.count(), 13);
    }

    static void promise05CountOfAllSizes() {
        int[][] due = {{1, 3, 6}, {3, 13, 40}, {6, 40, 213}, {10, 108, 1049}};
        Grids.onAllSizes((x, rows, columns) -> Check.same("count()", x.count(), due[rows - 1][columns - 1]));
    }

    static void promise05CountWithClues() {
        LoopDiagram x = Grids.square();
        x.clue(0, 0, 3);
        // Ranks 6, 7, 11 and 12: the cell is inside with one neighbour, the opposite cell may be too.
        Check.same("count() with a 3", x.count(), 4);
        x.clue(1, 1, 0);
        Check.same("count() with a 0 opposite", x.count(), 0);
        x.clue(0, 0, 4);
        Check.same("count() with a 4 and a 0", x.count(), 1);
    }

    static void promise06WidthOfEachLevel() {
        LoopDiagram x = new LoopDiagram(1, 1);
        int[] due = {1, 2, 2, 2, 1};
        for (int k = 0; k <= 4; k++) {
            Check.same("width(" + k + ", false)", x.width(k, false), due[k]);
            // The empty beginning of length 1, 2 or 3 is alive, but no more to be saved.
            Check.same("width(" + k + ", true)", x.width(k, true), 1);
        }
    }

    static void promise07NodesOfAllSizes() {
        int[][] due = {{8, 21, 47}, {17, 55, 146}, {28, 91, 250}, {39, 127, 354}};
        Grids.onAllSizes((x, rows, columns) -> {
            Check.same("nodes()", x.nodes(), due[rows - 1][columns - 1]);
            int sum = 0;
            for (int k = 0; k <= x.edges(); k++) {
                sum += x.width(k, false);
            }
            Check.same("the widths together", sum, x.nodes());
        });
    }

    static void promise07NodesChangeWithTheClues() {
        LoopDiagram x = new LoopDiagram(1, 1);
        x.clue(0, 0, 0);
        // Only the empty beginning keeps to the clue, and for the whole grid it is none.
        Check.same("nodes()", x.nodes(), 4);
        x.clue(0, 0, -1);
        Check.same("nodes()", x.nodes(), 8);
    }

    static void promise08EdgesOfAllSolutions() {
        LoopDiagram x = Grids.square();
        for (int k = 0; k < RANKED.length; k++) {
            for (int edge = 0; edge < 12; edge++) {
                Check.same("has(" + k + ", " + edge + ")", x.has(k, edge), holds(RANKED[k], edge));
            }
        }
    }

    static void promise09LengthOfAllSolutions() {
        LoopDiagram x = Grids.square();
        for (int k = 0; k < RANKED.length; k++) {
            Check.same("length(" + k + ")", x.length(k), RANKED[k].length);
        }
        x.clue(1, 0, 2);
        // Of those with two sides of the third cell, 7 9 11, the first has eight edges.
        Check.same("length(0) with a clue", x.length(0), 8);
    }

    static void promise10OftenOfAllEdges() {
        LoopDiagram x = Grids.square();
        Grids.draw(x, 0, 4, 11);
        for (int edge = 0; edge < 12; edge++) {
            int due = 0;
            for (int[] solution : RANKED) {
                due += holds(solution, edge) ? 1 : 0;
            }
            Check.same("often(" + edge + ")", x.often(edge), due);
        }
        Check.same("count()", x.count(), 13);
        x.clue(0, 0, 4);
        Check.same("often(5)", x.often(5), 1);
        Check.same("often(6)", x.often(6), 0);
    }

    static void promise10OftenInTheLargestGrid() {
        LoopDiagram x = new LoopDiagram(4, 3);
        Check.same("often(16)", x.often(16), 338);
        Check.same("often(30)", x.often(30), x.often(0));
    }

    static void promise11DrawPutsInAndTakesOut() {
        LoopDiagram x = new LoopDiagram(4, 3);
        for (int edge = 0; edge < 31; edge++) {
            Check.same("draw(" + edge + ")", x.draw(edge), true);
        }
        Check.same("drawn()", x.drawn(), 31);
        for (int edge = 0; edge < 31; edge++) {
            Check.same("draw(" + edge + ") again", x.draw(edge), false);
            Check.same("drawn()", x.drawn(), 30 - edge);
        }
    }

    static void promise12CopyOfAllSolutions() {
        LoopDiagram x = Grids.square();
        x.draw(3);
        for (int k = 0; k < RANKED.length; k++) {
            x.copy(k);
            Check.same("drawn()", x.drawn(), RANKED[k].length);
            Check.same("rank()", x.rank(), k);
            for (int edge = 0; edge < 12; edge++) {
                Check.same("draw(" + edge + ")", x.draw(edge), !holds(RANKED[k], edge));
                x.draw(edge);
            }
        }
    }

    static void promise13DrawnCountsTheEdges() {
        LoopDiagram x = Grids.square();
        Check.same("drawn()", x.drawn(), 0);
        Grids.draw(x, 0, 5, 11);
        Check.same("drawn()", x.drawn(), 3);
        x.draw(5);
        Check.same("drawn()", x.drawn(), 2);
        x.clue(0, 0, 4);
        Check.same("drawn() with a clue", x.drawn(), 2);
        x.copy(0);
        Check.same("drawn() of a copy", x.drawn(), 4);
    }

    static void promise14LoopsAndOthers() {
        LoopDiagram x = Grids.square();
        Check.same("isLoop() of nothing", x.isLoop(), false);
        Grids.draw(x, 0, 1, 3);
        Check.same("isLoop() of a path", x.isLoop(), false);
        x.draw(5);
        Check.same("isLoop() of a cell", x.isLoop(), true);
        x.draw(11);
        Check.same("isLoop() with an edge beside it", x.isLoop(), false);
        Grids.draw(x, 7, 8, 9);
        Check.same("isLoop() of two cells that touch", x.isLoop(), false);
        Grids.draw(x, 0, 1, 3, 5);
        Check.same("isLoop() of the other", x.isLoop(), true);
        x.clue(1, 1, 0);
        Check.same("isLoop() against a clue", x.isLoop(), true);
    }

    static void promise15RankOfTheDrawing() {
        LoopDiagram x = Grids.square();
        Check.fails("rank() of nothing", Check.NO_SUCH, x::rank);
        Grids.draw(x, 0, 1, 3);
        Check.fails("rank() of a path", Check.NO_SUCH, x::rank);
        x.draw(5);
        Check.same("rank() of a cell", x.rank(), 8);
        x.clue(0, 0, 4);
        Check.same("rank() as the only one", x.rank(), 0);
        x.clue(0, 1, 2);
        Check.fails("rank() against a clue", Check.NO_SUCH, x::rank);
        x.clue(0, 1, 1);
        x.draw(11);
        Check.fails("rank() with an edge beside it", Check.NO_SUCH, x::rank);
    }

    static void promise16AboveCountsTheSolutionsWithAllEdges() {
        LoopDiagram x = Grids.square();
        Check.same("above() of nothing", x.above(), 13);
        x.draw(0);
        Check.same("above() of 0", x.above(), 7);
        x.draw(3);
        Check.same("above() of 0 3", x.above(), 3);
        x.draw(2);
        Check.same("above() of a fork", x.above(), 0);
        x.draw(3);
        Check.same("above() of 0 2", x.above(), 4);
        x.copy(9);
        Check.same("above() of a solution", x.above(), 1);
        x.clue(0, 0, 2);
        Check.same("above() with a clue that fits", x.above(), 1);
        x.clue(0, 0, 1);
        Check.same("above() against a clue", x.above(), 0);
    }

    static void promise17AliveOfTheDrawing() {
        LoopDiagram x = Grids.square();
        Check.same("alive() of nothing", x.alive(), 11);
        x.draw(0);
        Check.same("alive() of a loose end", x.alive(), 1);
        x.draw(1);
        Check.same("alive() of a corner", x.alive(), 3);
        x.draw(3);
        Check.same("alive() of a path", x.alive(), 6);
        x.draw(5);
        Check.same("alive() of a loop", x.alive(), 12);
        x.draw(11);
        Check.same("alive() with an edge beside it", x.alive(), 11);
        x.draw(6);
        Check.same("alive() with a fork", x.alive(), 6);
    }

    static void promise17AliveLooksAtClues() {
        LoopDiagram x = Grids.square();
        x.copy(8);
        x.clue(0, 0, 3);
        Check.same("alive() with too many sides", x.alive(), 5);
        x.clue(0, 0, 4);
        x.clue(1, 1, 1);
        Check.same("alive() with too few sides", x.alive(), 11);
        x.clue(1, 1, 0);
        Check.same("alive() of a solution", x.alive(), 12);
        x.clue(0, 1, 0);
        Check.same("alive() with one side too many", x.alive(), 3);
    }

    static void promise18SpareTakesAwayWhatItCan() {
        LoopDiagram x = Grids.square();
        x.clue(0, 0, 4);
        x.clue(0, 1, 1);
        x.clue(1, 0, 1);
        x.clue(1, 1, 0);
        // The 0 alone would do, so all that come before it go.
        for (int times = 0; times < 2; times++) {
            Check.same("spare()", x.spare(), 1);
            Check.same("count()", x.count(), 1);
            Check.same("clueOf(0, 0)", x.clueOf(0, 0), -1);
            Check.same("clueOf(0, 1)", x.clueOf(0, 1), -1);
            Check.same("clueOf(1, 0)", x.clueOf(1, 0), -1);
            Check.same("clueOf(1, 1)", x.clueOf(1, 1), 0);
        }
    }

    static void promise19ClueOfEachCell() {
        LoopDiagram x = new LoopDiagram(4, 3);
        for (int cell = 0; cell < 12; cell++) {
            x.clue(cell / 3, cell % 3, cell % 6 - 1);
        }
        for (int cell = 0; cell < 12; cell++) {
            Check.same("clueOf of cell " + cell, x.clueOf(cell / 3, cell % 3), cell % 6 - 1);
        }
    }
}
