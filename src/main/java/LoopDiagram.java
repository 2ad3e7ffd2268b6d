import java.util.NoSuchElementException;

/**
 * The loops along the lines of a grid whose cells may have clues, held in a diagram that grows edge
 * by edge, and one drawing that is judged against them.
 *
 * <p>A set of edges is an int whose bit e stands for edge e: the largest grid has 31 edges.
 */
public final class LoopDiagram {
    public static final int NONE = -1;

    private static final int MOST_ROWS = 4;
    private static final int MOST_COLUMNS = 3;
    private static final int USUAL_SIZE = 2;
    private static final int MOST_SIDES = 4;

    private final Grid grid;
    private final Diagram diagram;
    private int drawing;
    // The diagram is grown only when it is asked for, so that clues can be set one after another.
    private boolean stale;

    public LoopDiagram(int rows, int columns) {
        boolean rowsFit = rows >= 1 && rows <= MOST_ROWS;
        boolean columnsFit = columns >= 1 && columns <= MOST_COLUMNS;
        grid = new Grid(rowsFit ? rows : USUAL_SIZE, columnsFit ? columns : USUAL_SIZE);
        diagram = new Diagram(grid);
        drawing = 0;
        stale = true;
    }

    public int edges() {
        return grid.edges;
    }

    public int point(int edge, boolean far) throws IndexOutOfBoundsException {
        if (isNoEdge(edge)) {
            throw new IndexOutOfBoundsException();
        }
        int lesser = grid.row[edge] * (grid.columns + 1) + grid.column[edge];
        if (!far) {
            return lesser;
        }
        return grid.goesDown[edge] ? lesser + grid.columns + 1 : lesser + 1;
    }

    public void clue(int r, int c, int v)
            throws IndexOutOfBoundsException, IllegalArgumentException {
        if (isNoCell(r, c)) {
            throw new IndexOutOfBoundsException();
        }
        if (v < NONE || v > MOST_SIDES) {
            throw new IllegalArgumentException();
        }
        setClue(r * grid.columns + c, v);
    }

    public int count() {
        return fresh().ways[Diagram.ROOT];
    }

    public int width(int k, boolean useful) throws IndexOutOfBoundsException {
        if (k < 0 || k > grid.edges) {
            throw new IndexOutOfBoundsException();
        }
        Diagram grown = fresh();
        return useful ? grown.usefulAt(k) : grown.first[k + 1] - grown.first[k];
    }

    public int nodes() {
        return fresh().size;
    }

    public boolean has(int k, int edge) throws NoSuchElementException, IndexOutOfBoundsException {
        int solution = fresh().solution(k);
        if (solution == 0) {
            throw new NoSuchElementException();
        }
        if (isNoEdge(edge)) {
            throw new IndexOutOfBoundsException();
        }
        return hasBit(solution, edge);
    }

    public int length(int k) throws NoSuchElementException {
        int solution = fresh().solution(k);
        if (solution == 0) {
            throw new NoSuchElementException();
        }
        return Integer.bitCount(solution);
    }

    public int often(int edge) throws IndexOutOfBoundsException {
        if (isNoEdge(edge)) {
            throw new IndexOutOfBoundsException();
        }
        return fresh().solutionsWith(1 << edge);
    }

    public boolean draw(int edge) throws IndexOutOfBoundsException {
        if (isNoEdge(edge)) {
            throw new IndexOutOfBoundsException();
        }
        drawing ^= 1 << edge;
        return hasBit(drawing, edge);
    }

    public void copy(int k) throws NoSuchElementException {
        int solution = fresh().solution(k);
        if (solution == 0) {
            throw new NoSuchElementException();
        }
        drawing = solution;
    }

    public int drawn() {
        return Integer.bitCount(drawing);
    }

    public boolean isLoop() {
        int state = Grid.START;
        for (int edge = 0; edge < grid.edges && state != Grid.DEAD; edge++) {
            state = grid.pointsAfter(state, edge, hasBit(drawing, edge));
        }
        return state != Grid.DEAD;
    }

    public int rank() throws NoSuchElementException {
        int rank = fresh().rankOf(drawing);
        if (rank == NONE) {
            throw new NoSuchElementException();
        }
        return rank;
    }

    public int above() {
        return fresh().solutionsWith(drawing);
    }

    public int alive() {
        return fresh().aliveEdges(drawing);
    }

    public int spare() throws IllegalStateException {
        if (fresh().ways[Diagram.ROOT] != 1) {
            throw new IllegalStateException();
        }
        int staying = 0;
        for (int cell = 0; cell < grid.clues.length; cell++) {
            int clue = grid.clues[cell];
            if (clue != NONE) {
                setClue(cell, NONE);
                if (fresh().ways[Diagram.ROOT] != 1) {
                    setClue(cell, clue);
                    staying++;
                }
            }
        }
        return staying;
    }

    public int clueOf(int r, int c) throws IndexOutOfBoundsException {
        if (isNoCell(r, c)) {
            throw new IndexOutOfBoundsException();
        }
        return grid.clues[r * grid.columns + c];
    }

    private boolean isNoEdge(int edge) {
        return edge < 0 || edge >= grid.edges;
    }

    private boolean isNoCell(int r, int c) {
        return r < 0 || r >= grid.rows || c < 0 || c >= grid.columns;
    }

    private void setClue(int cell, int clue) {
        if (grid.clues[cell] != clue) {
            grid.clues[cell] = clue;
            stale = true;
        }
    }

    private Diagram fresh() {
        if (stale) {
            diagram.grow();
            stale = false;
        }
        return diagram;
    }

    private static boolean hasBit(int set, int edge) {
        return (set >> edge & 1) == 1;
    }

    /**
     * The grid with its clues, and how the state of a beginning goes on when its next edge is
     * decided.
     *
     * <p>The state is all in which beginnings of one length that are not alike differ. It is an int
     * of eight slots of three bits:
     *
     * <ul>
     *   <li>One slot for each column of points, as no column has two open points at once: the
     *       column of the other end of the path that ends there, the column itself if the open
     *       point has no edges (or there is no open point), FULL if it has two.
     *   <li>From CELLS on, one slot for each column of cells: how many sides the cell has that has
     *       a clue and some sides decided, but not all; 0 if there is no such cell.
     *   <li>CLOSED: 1 if the beginning is a loop, or 0.
     * </ul>
     */
    private static final class Grid {
        static final int DEAD = -1;
        /** No edges yet: the slot of each column of points, 0 to 3, holds the column itself. */
        static final int START = 1 << 3 | 2 << 6 | 3 << 9;

        private static final int FULL = 7;
        private static final int MOST_POINT_COLUMNS = MOST_COLUMNS + 1;
        private static final int CELLS = MOST_POINT_COLUMNS;
        private static final int CLOSED = CELLS + MOST_COLUMNS;

        final int rows;
        final int columns;
        final int edges;
        /** Of each edge: the row and the column of its lesser point, and whether it goes down. */
        final int[] row;
        final int[] column;
        final boolean[] goesDown;
        /** Of each cell, row by row. */
        final int[] clues;

        Grid(int rows, int columns) {
            this.rows = rows;
            this.columns = columns;
            edges = (rows + 1) * columns + rows * (columns + 1);
            row = new int[edges];
            column = new int[edges];
            goesDown = new boolean[edges];
            clues = new int[rows * columns];
            for (int cell = 0; cell < clues.length; cell++) {
                clues[cell] = NONE;
            }
            int edge = 0;
            for (int r = 0; r <= rows; r++) {
                for (int c = 0; c <= columns; c++) {
                    if (c < columns) {
                        row[edge] = r;
                        column[edge] = c;
                        edge++;
                    }
                    if (r < rows) {
                        row[edge] = r;
                        column[edge] = c;
                        goesDown[edge] = true;
                        edge++;
                    }
                }
            }
        }

        /** The state after an edge is decided; DEAD if it can't be so, whatever the clues. */
        int pointsAfter(int state, int edge, boolean taken) {
            int at = column[edge];
            if (goesDown[edge]) {
                return downAfter(state, at, taken);
            }
            int next = taken ? joined(state, at) : state;
            if (row[edge] == rows) {
                next = ended(next, at);
            }
            if (edge == edges - 1) {
                next = ended(next, at + 1);
                boolean closed = next != DEAD && slot(next, CLOSED) == 1;
                return closed ? next : DEAD;
            }
            return next;
        }

        /** The state after an edge is decided; DEAD if it can't be so for the clues. */
        int cluesAfter(int state, int edge, boolean taken) {
            int r = row[edge];
            int c = column[edge];
            if (goesDown[edge]) {
                return sideAfter(sideAfter(state, r, c - 1, taken, false), r, c, taken, false);
            }
            // The upper cell gets its last side first, so that its slot is free for the lower one.
            return sideAfter(sideAfter(state, r - 1, c, taken, true), r, c, taken, false);
        }

        /** An edge down is the upper point's last: the lower point takes over its slot. */
        private static int downAfter(int state, int at, boolean taken) {
            if (isPathEnd(slot(state, at), at) != taken) {
                return DEAD;
            }
            // A path that goes on to the lower point ends in the same slot as before.
            return taken ? state : put(state, at, at);
        }

        /** The state with the edge from a column's point to the next column's. */
        private static int joined(int state, int left) {
            int right = left + 1;
            int leftEnd = slot(state, left);
            int rightEnd = slot(state, right);
            // The right point needs no look: of its edges only the upper one came before this.
            if (leftEnd == FULL || slot(state, CLOSED) == 1) {
                return DEAD;
            }
            int next = put(put(state, left, FULL), right, FULL);
            if (leftEnd != right) {
                // A point that had no edges is its own end: here its slot stops being FULL again.
                return put(put(next, leftEnd, rightEnd), rightEnd, leftEnd);
            }
            // The two ends of one path: it is a loop now, and nothing may stand beside it.
            for (int other = 0; other < MOST_POINT_COLUMNS; other++) {
                if (isPathEnd(slot(next, other), other)) {
                    return DEAD;
                }
            }
            return put(next, CLOSED, 1);
        }

        /** The state when a column's lowest point has had its last edge: its slot gets free. */
        private static int ended(int state, int at) {
            if (state == DEAD || isPathEnd(slot(state, at), at)) {
                return DEAD;
            }
            return put(state, at, at);
        }

        private int sideAfter(int state, int r, int c, boolean taken, boolean last) {
            if (state == DEAD || r < 0 || r >= rows || c < 0 || c >= columns) {
                return state;
            }
            int clue = clues[r * columns + c];
            if (clue == NONE) {
                return state;
            }
            int sides = slot(state, CELLS + c) + (taken ? 1 : 0);
            if (sides > clue || last && sides < clue) {
                return DEAD;
            }
            return put(state, CELLS + c, last ? 0 : sides);
        }

        private static boolean isPathEnd(int end, int at) {
            return end != at && end != FULL;
        }

        private static int slot(int state, int index) {
            return state >> 3 * index & 7;
        }

        private static int put(int state, int index, int value) {
            return state & ~(7 << 3 * index) | value << 3 * index;
        }
    }

    /** The nodes, level by level, each with the nodes that its beginnings go on to. */
    private static final class Diagram {
        static final int ROOT = 0;

        private static final int GONE = -1;
        /**
         * So many nodes has the largest grid if every cell's sides are counted and no beginning
         * dies of a clue. Real clues only drop some of these or make several one.
         */
        private static final int MOST_NODES = 1014;

        private final Grid grid;
        /** Of each level its first node, and of one level more. */
        final int[] first;
        int size;
        private final int[] states;
        /** The node without and the node with the level's edge, or GONE. */
        private final int[] low;
        private final int[] high;
        /** In how many ways each node goes on to a solution. */
        final int[] ways;
        private final int[] someWays;

        Diagram(Grid grid) {
            this.grid = grid;
            first = new int[grid.edges + 2];
            size = 0;
            states = new int[MOST_NODES];
            low = new int[MOST_NODES];
            high = new int[MOST_NODES];
            ways = new int[MOST_NODES];
            someWays = new int[MOST_NODES];
        }

        void grow() {
            first[0] = ROOT;
            states[ROOT] = Grid.START;
            size = 1;
            for (int edge = 0; edge < grid.edges; edge++) {
                first[edge + 1] = size;
                for (int node = first[edge]; node < first[edge + 1]; node++) {
                    low[node] = nodeAfter(node, edge, false);
                    high[node] = nodeAfter(node, edge, true);
                }
            }
            first[grid.edges + 1] = size;
            fillWays(ways, 0);
        }

        int usefulAt(int level) {
            int useful = 0;
            for (int node = first[level]; node < first[level + 1]; node++) {
                if (ways[node] > 0) {
                    useful++;
                }
            }
            return useful;
        }

        int solutionsWith(int wanted) {
            fillWays(someWays, wanted);
            return someWays[ROOT];
        }

        /** The edges of the solution with a rank; 0 (which is no solution) if there is none. */
        int solution(int rank) {
            if (rank < 0 || rank >= ways[ROOT]) {
                return 0;
            }
            int found = 0;
            int left = rank;
            int node = ROOT;
            for (int edge = 0; edge < grid.edges && node != GONE; edge++) {
                int before = waysOf(ways, low[node]);
                if (left < before) {
                    node = low[node];
                } else {
                    left -= before;
                    found |= 1 << edge;
                    node = high[node];
                }
            }
            return found;
        }

        /** The rank of a set of edges; NONE if it is no solution. */
        int rankOf(int set) {
            int rank = 0;
            int node = ROOT;
            for (int edge = 0; edge < grid.edges && node != GONE; edge++) {
                if (hasBit(set, edge)) {
                    rank += waysOf(ways, low[node]);
                    node = high[node];
                } else {
                    node = low[node];
                }
            }
            return node == GONE ? NONE : rank;
        }

        /** How long a beginning of a set of edges is alive: no longer one is, once one is not. */
        int aliveEdges(int set) {
            int node = ROOT;
            for (int edge = 0; edge < grid.edges; edge++) {
                node = hasBit(set, edge) ? high[node] : low[node];
                if (node == GONE) {
                    return edge;
                }
            }
            return grid.edges;
        }

        private int nodeAfter(int node, int edge, boolean taken) {
            int state = grid.pointsAfter(states[node], edge, taken);
            if (state != Grid.DEAD) {
                state = grid.cluesAfter(state, edge, taken);
            }
            if (state == Grid.DEAD) {
                return GONE;
            }
            for (int alike = first[edge + 1]; alike < size; alike++) {
                if (states[alike] == state) {
                    return alike;
                }
            }
            if (size >= MOST_NODES) {
                // Never so; the rows just must not be overrun.
                return GONE;
            }
            states[size] = state;
            size++;
            return size - 1;
        }

        /** Counts for each node the ways to a solution with every wanted edge still to come. */
        private void fillWays(int[] into, int wanted) {
            for (int node = first[grid.edges]; node < size; node++) {
                into[node] = 1;
            }
            for (int edge = grid.edges - 1; edge >= 0; edge--) {
                for (int node = first[edge]; node < first[edge + 1]; node++) {
                    int without = hasBit(wanted, edge) ? 0 : waysOf(into, low[node]);
                    into[node] = without + waysOf(into, high[node]);
                }
            }
        }

        private static int waysOf(int[] from, int node) {
            return node == GONE ? 0 : from[node];
        }
    }
}
