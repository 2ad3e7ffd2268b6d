/** What several tests need of grids, drawings and clues. */
final class Grids {
    static final int MOST_ROWS = 4;
    static final int MOST_COLUMNS = 3;

    interface Trial {
        void on(LoopDiagram x, int rows, int columns);
    }

    private Grids() {}

    /** The grid of 2 by 2 cells, whose sides are 0 1 3 5, 2 3 4 7 (above), 5 6 8 10 and 7 8 9 11. */
    static LoopDiagram square() {
        return new LoopDiagram(2, 2);
    }

    /** A new object of each size. */
    static void onAllSizes(Trial trial) {
        for (int rows = 1; rows <= MOST_ROWS; rows++) {
            for (int columns = 1; columns <= MOST_COLUMNS; columns++) {
                trial.on(new LoopDiagram(rows, columns), rows, columns);
            }
        }
    }

    static void draw(LoopDiagram x, int... edges) {
        for (int edge : edges) {
            x.draw(edge);
        }
    }

    /** Clues row by row from the left, -1 for none. */
    static void clues(LoopDiagram x, int[]... rows) {
        for (int r = 0; r < rows.length; r++) {
            for (int c = 0; c < rows[r].length; c++) {
                x.clue(r, c, rows[r][c]);
            }
        }
    }

    static int[] row(int... clues) {
        return clues;
    }

    static void sameClueEverywhere(LoopDiagram x, int rows, int columns, int clue) {
        for (int r = 0; r < rows; r++) {
            for (int c = 0; c < columns; c++) {
                x.clue(r, c, clue);
            }
        }
    }

    /** Numbers beside 0 .. end - 1: the nearest, the farthest, and those by which a shift shifts by none. */
    static int[] numbersOutside(int end) {
        int shiftedByNone = (end + 31) / 32 * 32;
        return new int[] {
            Integer.MIN_VALUE, -64, -32, -2, -1, end, end + 1, end + 32, shiftedByNone, Integer.MAX_VALUE,
        };
    }

    /**
     * Rows and columns of no cell: the nearest, the farthest, and those that are the place of a
     * cell all the same if its place is reckoned as row times columns and column, with wrap-around.
     */
    static int[][] cellsOutside(int rows, int columns) {
        return new int[][] {
            {-1, 0}, {0, -1}, {rows, 0}, {0, columns}, {rows - 1, columns}, {rows, columns - 1},
            {rows, columns}, {-1, -1}, {-1, columns}, {1, -1}, {rows, -1},
            {Integer.MIN_VALUE, 0}, {0, Integer.MIN_VALUE}, {Integer.MAX_VALUE, 0}, {0, Integer.MAX_VALUE},
            {1 << 30, 0}, {0x55555556, 0}, {0x55555556, -1}, {Integer.MAX_VALUE, columns},
        };
    }

    /** The edges of the drawing, bit e for edge e; it is the same again behind this. */
    static int drawing(LoopDiagram x) {
        int drawing = 0;
        for (int edge = 0; edge < x.edges(); edge++) {
            if (!x.draw(edge)) {
                drawing |= 1 << edge;
            }
            x.draw(edge);
        }
        return drawing;
    }
}
