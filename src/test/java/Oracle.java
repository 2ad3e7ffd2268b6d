import java.util.ArrayList;
import java.util.Arrays;
import java.util.HashMap;
import java.util.HashSet;
import java.util.List;
import java.util.Map;
import java.util.Set;
import java.util.TreeSet;

/**
 * The document's terms taken to the letter, without a diagram: sets of edges are looked at one by
 * one. A set is an int whose bit e stands for edge e. Nothing here is shared with the program.
 */
final class Oracle {
    final int rows;
    final int columns;
    final int points;
    final int edges;
    final int[] lesser;
    final int[] greater;
    /** The clue of each cell, row by row, -1 for none. */
    final int[] clues;
    private final int[] sides;
    private final int[] edgesOfPoint;
    private final List<Integer> loops;

    Oracle(int rows, int columns) {
        this.rows = rows;
        this.columns = columns;
        points = (rows + 1) * (columns + 1);
        List<int[]> ends = new ArrayList<>();
        for (int p = 0; p < points; p++) {
            if (p % (columns + 1) < columns) {
                ends.add(new int[] {p, p + 1});
            }
            if (p / (columns + 1) < rows) {
                ends.add(new int[] {p, p + columns + 1});
            }
        }
        edges = ends.size();
        lesser = new int[edges];
        greater = new int[edges];
        edgesOfPoint = new int[points];
        for (int e = 0; e < edges; e++) {
            lesser[e] = ends.get(e)[0];
            greater[e] = ends.get(e)[1];
            edgesOfPoint[lesser[e]] |= 1 << e;
            edgesOfPoint[greater[e]] |= 1 << e;
        }
        clues = new int[rows * columns];
        Arrays.fill(clues, -1);
        sides = new int[rows * columns];
        for (int cell = 0; cell < sides.length; cell++) {
            int corner = cell / columns * (columns + 1) + cell % columns;
            sides[cell] = bit(corner, corner + 1) | bit(corner, corner + columns + 1)
                    | bit(corner + 1, corner + columns + 2)
                    | bit(corner + columns + 1, corner + columns + 2);
        }
        loops = findLoops();
    }

    private int bit(int from, int to) {
        for (int e = 0; e < edges; e++) {
            if (lesser[e] == from && greater[e] == to) {
                return 1 << e;
            }
        }
        throw new AssertionError("no edge from " + from + " to " + to);
    }

    /** Every loop is the rim of the cells inside it. */
    private List<Integer> findLoops() {
        List<Integer> found = new ArrayList<>();
        for (int inside = 1; inside < 1 << sides.length; inside++) {
            int rim = 0;
            for (int cell = 0; cell < sides.length; cell++) {
                if ((inside >> cell & 1) == 1) {
                    rim ^= sides[cell];
                }
            }
            if (isLoop(rim)) {
                found.add(rim);
            }
        }
        return found;
    }

    int sidesIn(int set, int cell) {
        return Integer.bitCount(set & sides[cell]);
    }

    int degree(int set, int point) {
        return Integer.bitCount(set & edgesOfPoint[point]);
    }

    /** The points that one comes to from a point along a set of edges, as bits. */
    private int reached(int set, int from) {
        int reached = 1 << from;
        for (int before = 0; before != reached; ) {
            before = reached;
            for (int e = 0; e < edges; e++) {
                int ends = 1 << lesser[e] | 1 << greater[e];
                if ((set >> e & 1) == 1 && (reached & ends) != 0) {
                    reached |= ends;
                }
            }
        }
        return reached;
    }

    boolean isLoop(int set) {
        int touched = 0;
        for (int p = 0; p < points; p++) {
            int degree = degree(set, p);
            if (degree != 0 && degree != 2) {
                return false;
            }
            touched |= degree == 0 ? 0 : 1 << p;
        }
        return touched != 0
                && reached(set, Integer.numberOfTrailingZeros(touched)) == touched;
    }

    boolean isSolution(int set) {
        if (!isLoop(set)) {
            return false;
        }
        for (int cell = 0; cell < clues.length; cell++) {
            if (clues[cell] != -1 && sidesIn(set, cell) != clues[cell]) {
                return false;
            }
        }
        return true;
    }

    /** All solutions by rank. */
    List<Integer> solutions() {
        List<Integer> found = new ArrayList<>();
        for (int loop : loops) {
            if (isSolution(loop)) {
                found.add(loop);
            }
        }
        found.sort((a, b) -> {
            int least = Integer.lowestOneBit(a ^ b);
            return least == 0 ? 0 : (a & least) == 0 ? -1 : 1;
        });
        return found;
    }

    List<Integer> loops() {
        return loops;
    }

    private static int below(int k) {
        return (int) ((1L << k) - 1);
    }

    boolean isAlive(int set, int k) {
        if (k == edges && set == 0) {
            return false;
        }
        for (int p = 0; p < points; p++) {
            boolean all = (edgesOfPoint[p] & ~below(k)) == 0;
            if (degree(set, p) > 2 || all && degree(set, p) == 1) {
                return false;
            }
        }
        int part = someLoop(set);
        if (part != 0 && part != set) {
            return false;
        }
        for (int cell = 0; cell < clues.length; cell++) {
            int count = sidesIn(set, cell);
            boolean all = (sides[cell] & ~below(k)) == 0;
            if (clues[cell] != -1 && (count > clues[cell] || all && count != clues[cell])) {
                return false;
            }
        }
        return true;
    }

    /** Some of the edges of a set that make a loop, or 0; no point may have more than two. */
    private int someLoop(int set) {
        for (int p = 0; p < points; p++) {
            int reached = reached(set, p);
            int part = 0;
            for (int e = 0; e < edges; e++) {
                if ((set >> e & 1) == 1 && (reached >> lesser[e] & 1) == 1) {
                    part |= 1 << e;
                }
            }
            if (isLoop(part)) {
                return part;
            }
        }
        return 0;
    }

    /** All alive beginnings of each length, each made from a shorter one. */
    List<List<Integer>> aliveBeginnings() {
        List<List<Integer>> all = new ArrayList<>();
        all.add(List.of(0));
        for (int k = 1; k <= edges; k++) {
            List<Integer> next = new ArrayList<>();
            for (int set : all.get(k - 1)) {
                if (isAlive(set, k)) {
                    next.add(set);
                }
                if (isAlive(set | 1 << k - 1, k)) {
                    next.add(set | 1 << k - 1);
                }
            }
            all.add(next);
        }
        return all;
    }

    /** Two beginnings of length k are alike if and only if this is the same for both. */
    String kind(int set, int k) {
        StringBuilder kind = new StringBuilder().append(isLoop(set));
        for (int p = 0; p < points; p++) {
            boolean open = (edgesOfPoint[p] & below(k)) != 0 && (edgesOfPoint[p] & ~below(k)) != 0;
            if (open) {
                kind.append(' ').append(degree(set, p));
                if (degree(set, p) == 1) {
                    kind.append('-').append(otherEnd(set, p));
                }
            }
        }
        for (int cell = 0; cell < clues.length; cell++) {
            boolean some = (sides[cell] & below(k)) != 0 && (sides[cell] & ~below(k)) != 0;
            if (clues[cell] != -1 && some) {
                kind.append(" c").append(sidesIn(set, cell));
            }
        }
        return kind.toString();
    }

    private int otherEnd(int set, int end) {
        int reached = reached(set, end);
        for (int p = 0; p < points; p++) {
            if (p != end && (reached >> p & 1) == 1 && degree(set, p) == 1) {
                return p;
            }
        }
        throw new AssertionError("a path with one end");
    }

    /** For each level how many nodes it has, and how many useful ones. */
    int[][] widths() {
        List<Integer> solutions = solutions();
        List<List<Integer>> alive = aliveBeginnings();
        int[][] widths = new int[edges + 1][2];
        for (int k = 0; k <= edges; k++) {
            Set<Integer> begun = new HashSet<>();
            for (int solution : solutions) {
                begun.add(solution & below(k));
            }
            Map<String, Boolean> nodes = new HashMap<>();
            for (int set : alive.get(k)) {
                boolean useful = begun.contains(set);
                Boolean other = nodes.put(kind(set, k), useful);
                if (other != null && other != useful) {
                    throw new AssertionError("alike, but only one of them useful");
                }
            }
            widths[k][0] = nodes.size();
            for (boolean useful : nodes.values()) {
                widths[k][1] += useful ? 1 : 0;
            }
        }
        return widths;
    }

    /** Takes away clues as spare() does; answers how many stay. */
    int spare() {
        int staying = 0;
        for (int cell = 0; cell < clues.length; cell++) {
            int clue = clues[cell];
            clues[cell] = -1;
            if (clue != -1 && solutions().size() != 1) {
                clues[cell] = clue;
                staying++;
            }
        }
        return staying;
    }

    /** The greatest k for which the edges of a set below k are an alive beginning. */
    int aliveLength(int set) {
        int greatest = 0;
        for (int k = 0; k <= edges; k++) {
            if (isAlive(set & below(k), k)) {
                greatest = k;
            }
        }
        return greatest;
    }

    /** Every set of edges that is a solution; only for grids with few edges. */
    Set<Integer> solutionsOfAllSets() {
        Set<Integer> found = new TreeSet<>();
        for (int set = 0; set < 1 << edges; set++) {
            if (isSolution(set)) {
                found.add(set);
            }
        }
        return found;
    }

    /** Every alive beginning of a length; only for grids with few edges. */
    Set<Integer> aliveOfAllSets(int k) {
        Set<Integer> found = new TreeSet<>();
        for (int set = 0; set < 1 << k; set++) {
            if (isAlive(set, k)) {
                found.add(set);
            }
        }
        return found;
    }
}
