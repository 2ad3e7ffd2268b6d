import java.util.List;
import java.util.NoSuchElementException;
import java.util.TreeSet;

/** The program against the document's terms taken to the letter, on every size of grid. */
final class OracleTest {
    private interface Trial {
        void on(LoopDiagram program, Oracle oracle);
    }

    /** A row of numbers that is the same in each run. */
    private static final class Numbers {
        private long last;

        Numbers(long first) {
            last = first;
        }

        int below(int bound) {
            last = last * 6364136223846793005L + 1442695040888963407L;
            return (int) ((last >>> 33) % bound);
        }
    }

    /** Clues that a loop of the grid fits, but for one of them now and then. */
    private static void setClues(LoopDiagram program, Oracle oracle, Numbers numbers, int oneOf) {
        int loop = oracle.loops().get(numbers.below(oracle.loops().size()));
        for (int cell = 0; cell < oracle.clues.length; cell++) {
            int clue = numbers.below(oneOf) == 0 ? oracle.sidesIn(loop, cell) : -1;
            if (numbers.below(20) == 0) {
                clue = numbers.below(6) - 1;
            }
            setClue(program, oracle, cell, clue);
        }
    }

    private static void setClue(LoopDiagram program, Oracle oracle, int cell, int clue) {
        oracle.clues[cell] = clue;
        program.clue(cell / oracle.columns, cell % oracle.columns, clue);
    }

    private static void onAllSizes(int cluesEach, Trial trial) {
        for (int rows = 1; rows <= 4; rows++) {
            for (int columns = 1; columns <= 3; columns++) {
                Numbers numbers = new Numbers(rows * 10 + columns);
                LoopDiagram program = new LoopDiagram(rows, columns);
                Oracle oracle = new Oracle(rows, columns);
                trial.on(program, oracle);
                for (int times = 0; times < cluesEach; times++) {
                    setClues(program, oracle, numbers, 1 + times % 4);
                    trial.on(program, oracle);
                }
            }
        }
    }

    static void oracleAgreesWithAllSetsOfEdges() {
        for (int rows = 1; rows <= 2; rows++) {
            for (int columns = 1; columns <= 2; columns++) {
                Oracle oracle = new Oracle(rows, columns);
                for (int clue = -1; clue <= 4; clue++) {
                    oracle.clues[0] = clue;
                    Check.same("solutions", new TreeSet<>(oracle.solutions()).equals(oracle.solutionsOfAllSets()), true);
                    List<List<Integer>> alive = oracle.aliveBeginnings();
                    for (int k = 0; k <= oracle.edges; k++) {
                        Check.same("alive", new TreeSet<>(alive.get(k)).equals(oracle.aliveOfAllSets(k)), true);
                    }
                }
            }
        }
    }

    static void pointsOfEdges() {
        onAllSizes(0, (program, oracle) -> {
            Check.same("edges()", program.edges(), oracle.edges);
            for (int edge = 0; edge < oracle.edges; edge++) {
                Check.same("point", program.point(edge, false), oracle.lesser[edge]);
                Check.same("point", program.point(edge, true), oracle.greater[edge]);
            }
        });
    }

    static void widthsAndNodes() {
        onAllSizes(16, (program, oracle) -> {
            int[][] widths = oracle.widths();
            int sum = 0;
            for (int k = 0; k <= oracle.edges; k++) {
                Check.same("width(" + k + ", false)", program.width(k, false), widths[k][0]);
                Check.same("width(" + k + ", true)", program.width(k, true), widths[k][1]);
                sum += widths[k][0];
            }
            Check.same("nodes()", program.nodes(), sum);
        });
    }

    /** Clues that let most beginnings live make the most nodes: none, or the same one in each cell. */
    static void widthsWithTheSameClueEverywhere() {
        for (int rows = 1; rows <= 4; rows++) {
            for (int columns = 1; columns <= 3; columns++) {
                for (int clue = 0; clue <= 4; clue++) {
                    LoopDiagram program = new LoopDiagram(rows, columns);
                    Oracle oracle = new Oracle(rows, columns);
                    for (int cell = 0; cell < oracle.clues.length; cell++) {
                        setClue(program, oracle, cell, clue);
                    }
                    int[][] widths = oracle.widths();
                    for (int k = 0; k <= oracle.edges; k++) {
                        Check.same("width(" + k + ", false)", program.width(k, false), widths[k][0]);
                        Check.same("width(" + k + ", true)", program.width(k, true), widths[k][1]);
                    }
                    Check.same("count()", program.count(), oracle.solutions().size());
                }
            }
        }
    }

    static void solutionsByRank() {
        onAllSizes(30, (program, oracle) -> {
            List<Integer> solutions = oracle.solutions();
            Check.same("count()", program.count(), solutions.size());
            int[] often = new int[oracle.edges];
            for (int k = 0; k < solutions.size(); k++) {
                int solution = solutions.get(k);
                Check.same("length(" + k + ")", program.length(k), Integer.bitCount(solution));
                for (int edge = 0; edge < oracle.edges; edge++) {
                    boolean due = (solution >> edge & 1) == 1;
                    often[edge] += due ? 1 : 0;
                    Check.same("has(" + k + ", " + edge + ")", program.has(k, edge), due);
                }
                program.copy(k);
                Check.same("rank()", program.rank(), k);
                Check.same("above()", program.above(), 1);
                Check.same("isLoop()", program.isLoop(), true);
                Check.same("alive()", program.alive(), oracle.edges);
            }
            for (int edge = 0; edge < oracle.edges; edge++) {
                Check.same("often(" + edge + ")", program.often(edge), often[edge]);
            }
            Check.fails("length(count())", NoSuchElementException.class, () -> program.length(solutions.size()));
        });
    }

    static void drawings() {
        Numbers numbers = new Numbers(77);
        onAllSizes(30, (program, oracle) -> {
            List<Integer> solutions = oracle.solutions();
            int drawing = clearDrawing(program, oracle);
            for (int times = 0; times < 40; times++) {
                if (times % 4 == 0 && !solutions.isEmpty()) {
                    int k = numbers.below(solutions.size());
                    program.copy(k);
                    drawing = solutions.get(k);
                } else if (times % 4 == 1) {
                    drawing = clearDrawing(program, oracle);
                    int loop = oracle.loops().get(numbers.below(oracle.loops().size()));
                    for (int edge = 0; edge < oracle.edges; edge++) {
                        if ((loop >> edge & 1) == 1) {
                            drawing = toggle(program, drawing, edge);
                        }
                    }
                } else {
                    drawing = toggle(program, drawing, numbers.below(oracle.edges));
                }
                judge(program, oracle, solutions, drawing);
            }
        });
    }

    private static int clearDrawing(LoopDiagram program, Oracle oracle) {
        for (int edge = 0; edge < oracle.edges; edge++) {
            if (program.draw(edge)) {
                program.draw(edge);
            }
        }
        return 0;
    }

    private static int toggle(LoopDiagram program, int drawing, int edge) {
        int now = drawing ^ 1 << edge;
        Check.same("draw(" + edge + ")", program.draw(edge), (now >> edge & 1) == 1);
        return now;
    }

    private static void judge(LoopDiagram program, Oracle oracle, List<Integer> solutions, int drawing) {
        Check.same("drawn()", program.drawn(), Integer.bitCount(drawing));
        Check.same("isLoop()", program.isLoop(), oracle.isLoop(drawing));
        Check.same("alive()", program.alive(), oracle.aliveLength(drawing));
        int above = 0;
        for (int solution : solutions) {
            above += (solution & drawing) == drawing ? 1 : 0;
        }
        Check.same("above()", program.above(), above);
        int rank = solutions.indexOf(drawing);
        if (rank == -1) {
            Check.fails("rank()", NoSuchElementException.class, program::rank);
        } else {
            Check.same("rank()", program.rank(), rank);
        }
    }

    static void spares() {
        int[] unique = new int[1];
        onAllSizes(60, (program, oracle) -> {
            if (oracle.solutions().size() != 1) {
                Check.fails("spare()", IllegalStateException.class, program::spare);
            } else {
                unique[0]++;
                Check.same("spare()", program.spare(), oracle.spare());
                Check.same("count()", program.count(), 1);
            }
            for (int cell = 0; cell < oracle.clues.length; cell++) {
                Check.same("clueOf", program.clueOf(cell / oracle.columns, cell % oracle.columns), oracle.clues[cell]);
            }
        });
        Check.same("enough clues with one solution", unique[0] > 100, true);
    }
}
