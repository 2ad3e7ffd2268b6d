/**
 * The sentences of the promises that name a boundary, one test each, with the sentence above it.
 * That a refused call changes nothing besides is RefusedTest's.
 */
final class BoundaryTest {
    private interface Question {
        int of(LoopDiagram x);
    }

    /** The calls that answer the same when they are made again. */
    private static final Question[] QUESTIONS = {
        LoopDiagram::edges,
        x -> x.point(30, true),
        LoopDiagram::count,
        x -> x.width(15, false),
        x -> x.width(15, true),
        LoopDiagram::nodes,
        x -> x.has(0, 30) ? 1 : 0,
        x -> x.length(0),
        x -> x.often(30),
        LoopDiagram::drawn,
        x -> x.isLoop() ? 1 : 0,
        LoopDiagram::rank,
        LoopDiagram::above,
        LoopDiagram::alive,
        LoopDiagram::spare,
        x -> x.clueOf(3, 2),
    };

    private static final int LEAST = Integer.MIN_VALUE;
    private static final int MOST = Integer.MAX_VALUE;

    private static void edges(int rows, int columns, int due) {
        Check.same("edges() of " + rows + " by " + columns, new LoopDiagram(rows, columns).edges(), due);
    }

    /** No solution: two cells side by side can't both have all their sides in one loop. */
    private static LoopDiagram unsolvable() {
        LoopDiagram x = Grids.square();
        Grids.clues(x, Grids.row(4, 4));
        return x;
    }

    /** Just one solution, the rim of the first cell. */
    private static LoopDiagram unique() {
        LoopDiagram x = Grids.square();
        x.clue(0, 0, 4);
        return x;
    }

    // "R is rows, 2 when it is not 1 .. 4"
    static void promise01TooFewRowsAreTwo() {
        for (int rows : new int[] {0, -1, -2, -4, LEAST}) {
            edges(rows, 3, 17);
        }
    }

    static void promise01TooManyRowsAreTwo() {
        for (int rows : new int[] {5, 6, 1 << 16, MOST}) {
            edges(rows, 3, 17);
        }
    }

    static void promise01OneRowAndFourRowsStay() {
        edges(1, 2, 7);
        edges(4, 2, 22);
    }

    // "C is columns, 2 when it is not 1 .. 3"
    static void promise01TooFewColumnsAreTwo() {
        for (int columns : new int[] {0, -1, -2, -3, LEAST}) {
            edges(4, columns, 22);
        }
    }

    static void promise01TooManyColumnsAreTwo() {
        for (int columns : new int[] {4, 5, 1 << 16, MOST}) {
            edges(4, columns, 22);
        }
    }

    static void promise01OneColumnAndThreeColumnsStay() {
        edges(2, 1, 7);
        edges(2, 3, 17);
    }

    static void promise01RowsAndColumnsThatAreBothWrongAreTwo() {
        edges(0, 0, 12);
        edges(5, 4, 12);
        edges(LEAST, MOST, 12);
    }

    static void promise01WrongSizesMakeAGridOfTwoByTwoInAllElse() {
        LoopDiagram x = new LoopDiagram(0, 4);
        Check.same("point(11, true)", x.point(11, true), 8);
        Check.same("count()", x.count(), 13);
        x.clue(1, 1, 0);
        Check.fails("clue(2, 0, 0)", Check.OUT, () -> x.clue(2, 0, 0));
        Check.fails("clue(0, 2, 0)", Check.OUT, () -> x.clue(0, 2, 0));
    }

    // "No clues."
    static void promise01NoCellHasAClueAtFirst() {
        Grids.onAllSizes((x, rows, columns) -> {
            for (int r = 0; r < rows; r++) {
                for (int c = 0; c < columns; c++) {
                    Check.same("clueOf", x.clueOf(r, c), LoopDiagram.NONE);
                }
            }
        });
    }

    // "E", the least and the greatest
    static void promise02FewestAndMostEdges() {
        edges(1, 1, 4);
        edges(4, 3, 31);
    }

    // "IndexOutOfBoundsException when there is no such edge."
    static void promise03PointOfNoEdge() {
        Grids.onAllSizes((x, rows, columns) -> {
            for (int edge : Grids.numbersOutside(x.edges())) {
                Check.fails("point(" + edge + ", false)", Check.OUT, () -> x.point(edge, false));
                Check.fails("point(" + edge + ", true)", Check.OUT, () -> x.point(edge, true));
            }
        });
    }

    static void promise03PointsOfTheFirstAndTheLastEdge() {
        LoopDiagram x = new LoopDiagram(4, 3);
        Check.same("point(0, false)", x.point(0, false), 0);
        Check.same("point(0, true)", x.point(0, true), 1);
        Check.same("point(30, false)", x.point(30, false), 18);
        Check.same("point(30, true)", x.point(30, true), 19);
    }

    // "The cell in row r and column c (from 0)"
    static void promise04ClueInEachCellFromTheFirstToTheLast() {
        Grids.onAllSizes((x, rows, columns) -> {
            for (int cell = 0; cell < rows * columns; cell++) {
                x.clue(cell / columns, cell % columns, cell % 5);
            }
            for (int cell = 0; cell < rows * columns; cell++) {
                Check.same("clueOf cell " + cell, x.clueOf(cell / columns, cell % columns), cell % 5);
            }
        });
    }

    // "or none when v is -1"
    static void promise04MinusOneTakesAClueAway() {
        LoopDiagram x = unique();
        x.clue(0, 0, -1);
        Check.same("clueOf(0, 0)", x.clueOf(0, 0), -1);
        Check.same("count()", x.count(), 13);
    }

    static void promise04MinusOneLeavesACellWithoutAClue() {
        LoopDiagram x = Grids.square();
        x.clue(0, 0, -1);
        Check.same("clueOf(0, 0)", x.clueOf(0, 0), -1);
        Check.same("count()", x.count(), 13);
    }

    // "IndexOutOfBoundsException when there is no such cell"
    static void promise04ClueOfNoCell() {
        Grids.onAllSizes((x, rows, columns) -> {
            for (int[] cell : Grids.cellsOutside(rows, columns)) {
                Check.fails("clue of " + cell[0] + ", " + cell[1], Check.OUT, () -> x.clue(cell[0], cell[1], 2));
            }
        });
    }

    // "IllegalArgumentException when v is not -1 .. 4"
    static void promise04ClueTooSmall() {
        for (int v : new int[] {-2, -3, LEAST}) {
            Check.fails("clue " + v, Check.WRONG, () -> Grids.square().clue(0, 0, v));
        }
    }

    static void promise04ClueTooLarge() {
        for (int v : new int[] {5, 6, 1 << 8, MOST}) {
            Check.fails("clue " + v, Check.WRONG, () -> Grids.square().clue(0, 0, v));
        }
    }

    static void promise04LeastAndGreatestClue() {
        LoopDiagram x = Grids.square();
        for (int v : new int[] {0, 4, -1}) {
            x.clue(0, 0, v);
            Check.same("clueOf(0, 0)", x.clueOf(0, 0), v);
        }
    }

    // "How many solutions there are."
    static void promise05NoSolution() {
        Check.same("count()", unsolvable().count(), 0);
    }

    static void promise05OneSolution() {
        Check.same("count() of one cell", new LoopDiagram(1, 1).count(), 1);
        Check.same("count()", unique().count(), 1);
    }

    static void promise05MostSolutions() {
        Check.same("count()", new LoopDiagram(4, 3).count(), 1049);
    }

    // "IndexOutOfBoundsException when k is not 0 .. E."
    static void promise06WidthOfNoLevel() {
        Grids.onAllSizes((x, rows, columns) -> {
            for (int k : Grids.numbersOutside(x.edges() + 1)) {
                Check.fails("width(" + k + ", false)", Check.OUT, () -> x.width(k, false));
                Check.fails("width(" + k + ", true)", Check.OUT, () -> x.width(k, true));
            }
        });
    }

    static void promise06WidthOfTheFirstAndTheLastLevel() {
        Grids.onAllSizes((x, rows, columns) -> {
            for (int k = 0; k <= x.edges(); k += x.edges()) {
                Check.same("width(" + k + ", false)", x.width(k, false), 1);
                Check.same("width(" + k + ", true)", x.width(k, true), 1);
            }
        });
    }

    static void promise06WidthsWithoutASolution() {
        LoopDiagram x = new LoopDiagram(1, 1);
        x.clue(0, 0, 3);
        int[] due = {1, 2, 2, 2, 0};
        for (int k = 0; k <= 4; k++) {
            Check.same("width(" + k + ", false)", x.width(k, false), due[k]);
            Check.same("width(" + k + ", true)", x.width(k, true), 0);
        }
    }

    // "How many nodes all levels have together."
    static void promise07NodesCountTheFirstAndTheLastLevel() {
        // 1, 2, 2, 2 and 1.
        Check.same("nodes()", new LoopDiagram(1, 1).nodes(), 8);
    }

    static void promise07NodesWithoutASolution() {
        LoopDiagram x = new LoopDiagram(1, 1);
        x.clue(0, 0, 3);
        Check.same("nodes()", x.nodes(), 7);
        x.clue(0, 0, 0);
        // Nothing at the levels 0 to 3, and not even this at level 4.
        Check.same("nodes()", x.nodes(), 4);
    }

    static void promise07MostNodes() {
        Check.same("nodes()", new LoopDiagram(4, 3).nodes(), 354);
    }

    // "NoSuchElementException when there is no such solution"
    static void promise08HasOfNoSolution() {
        Grids.onAllSizes((x, rows, columns) -> {
            for (int k : Grids.numbersOutside(x.count())) {
                Check.fails("has(" + k + ", 0)", Check.NO_SUCH, () -> x.has(k, 0));
            }
        });
        Check.fails("has(0, 0) of none", Check.NO_SUCH, () -> unsolvable().has(0, 0));
    }

    // "IndexOutOfBoundsException when there is no such edge."
    static void promise08HasOfNoEdge() {
        Grids.onAllSizes((x, rows, columns) -> {
            for (int edge : Grids.numbersOutside(x.edges())) {
                Check.fails("has(0, " + edge + ")", Check.OUT, () -> x.has(0, edge));
            }
        });
    }

    static void promise08FirstAndLastEdgeOfTheFirstAndTheLastSolution() {
        LoopDiagram x = Grids.square();
        Check.same("has(0, 0)", x.has(0, 0), false);
        Check.same("has(0, 11)", x.has(0, 11), true);
        Check.same("has(12, 0)", x.has(12, 0), true);
        Check.same("has(12, 11)", x.has(12, 11), false);
    }

    // "How many edges the solution with the rank k has."
    static void promise09ShortestAndLongestSolution() {
        LoopDiagram x = new LoopDiagram(4, 3);
        int shortest = MOST;
        int longest = 0;
        for (int k = 0; k < x.count(); k++) {
            shortest = Math.min(shortest, x.length(k));
            longest = Math.max(longest, x.length(k));
        }
        // One cell's sides; an edge from each of the 20 points to the next.
        Check.same("the shortest", shortest, 4);
        Check.same("the longest", longest, 20);
    }

    // "NoSuchElementException when there is none."
    static void promise09LengthOfNoSolution() {
        LoopDiagram x = Grids.square();
        for (int k : Grids.numbersOutside(13)) {
            Check.fails("length(" + k + ")", Check.NO_SUCH, () -> x.length(k));
        }
        Check.fails("length(1) of one", Check.NO_SUCH, () -> unique().length(1));
        Check.fails("length(0) of none", Check.NO_SUCH, () -> unsolvable().length(0));
    }

    // "In how many solutions an edge is."
    static void promise10EdgeInNoneAndInAllSolutions() {
        LoopDiagram x = unique();
        for (int edge : new int[] {0, 1, 3, 5}) {
            Check.same("often(" + edge + ")", x.often(edge), 1);
        }
        for (int edge : new int[] {2, 4, 6, 11}) {
            Check.same("often(" + edge + ")", x.often(edge), 0);
        }
    }

    static void promise10OftenWithoutASolution() {
        LoopDiagram x = unsolvable();
        for (int edge = 0; edge < 12; edge++) {
            Check.same("often(" + edge + ")", x.often(edge), 0);
        }
    }

    // "IndexOutOfBoundsException when there is no such edge."
    static void promise10OftenOfNoEdge() {
        Grids.onAllSizes((x, rows, columns) -> {
            for (int edge : Grids.numbersOutside(x.edges())) {
                Check.fails("often(" + edge + ")", Check.OUT, () -> x.often(edge));
            }
        });
    }

    static void promise10OftenOfTheFirstAndTheLastEdge() {
        LoopDiagram x = Grids.square();
        Check.same("often(0)", x.often(0), 7);
        Check.same("often(11)", x.often(11), 7);
    }

    // "or out of it when it is there: whether it is there now"
    static void promise11SecondDrawTakesTheEdgeOut() {
        Grids.onAllSizes((x, rows, columns) -> {
            for (int edge = 0; edge < x.edges(); edge++) {
                Check.same("draw(" + edge + ")", x.draw(edge), true);
                Check.same("drawn()", x.drawn(), 1);
                Check.same("draw(" + edge + ") again", x.draw(edge), false);
                Check.same("drawn()", x.drawn(), 0);
            }
        });
    }

    // "IndexOutOfBoundsException when there is no such edge."
    static void promise11DrawOfNoEdge() {
        Grids.onAllSizes((x, rows, columns) -> {
            for (int edge : Grids.numbersOutside(x.edges())) {
                Check.fails("draw(" + edge + ")", Check.OUT, () -> x.draw(edge));
            }
        });
    }

    // "The drawing becomes the solution with the rank k."
    static void promise12CopyOfTheFirstAndTheLastSolution() {
        LoopDiagram x = Grids.square();
        x.copy(0);
        Check.same("the drawing", Grids.drawing(x), 1 << 7 | 1 << 8 | 1 << 9 | 1 << 11);
        x.copy(12);
        Check.same("the drawing", Grids.drawing(x), 1 | 1 << 1 | 1 << 2 | 1 << 4 | 1 << 5 | 1 << 7);
    }

    static void promise12CopyLeavesNothingOfAFullDrawing() {
        LoopDiagram x = new LoopDiagram(4, 3);
        for (int edge = 0; edge < 31; edge++) {
            x.draw(edge);
        }
        x.copy(0);
        Check.same("the drawing", Grids.drawing(x), 1 << 25 | 1 << 26 | 1 << 27 | 1 << 30);
    }

    // "NoSuchElementException when there is none."
    static void promise12CopyOfNoSolution() {
        LoopDiagram x = Grids.square();
        for (int k : Grids.numbersOutside(13)) {
            Check.fails("copy(" + k + ")", Check.NO_SUCH, () -> x.copy(k));
        }
        Check.fails("copy(1) of one", Check.NO_SUCH, () -> unique().copy(1));
        Check.fails("copy(0) of none", Check.NO_SUCH, () -> unsolvable().copy(0));
    }

    // "How many edges the drawing has."
    static void promise13DrawnOfAnEmptyAndAFullDrawing() {
        Grids.onAllSizes((x, rows, columns) -> {
            Check.same("drawn()", x.drawn(), 0);
            for (int edge = 0; edge < x.edges(); edge++) {
                x.draw(edge);
            }
            Check.same("drawn()", x.drawn(), x.edges());
        });
    }

    // "Whether the drawing is a loop, whatever the clues."
    static void promise14LoopAgainstAClueIsALoop() {
        LoopDiagram x = unsolvable();
        Grids.draw(x, 0, 1, 3, 5);
        Check.same("isLoop()", x.isLoop(), true);
        Grids.sameClueEverywhere(x, 2, 2, 0);
        Check.same("isLoop()", x.isLoop(), true);
    }

    static void promise14FullDrawingIsALoopInOneCellOnly() {
        Grids.onAllSizes((x, rows, columns) -> {
            for (int edge = 0; edge < x.edges(); edge++) {
                x.draw(edge);
            }
            Check.same("isLoop()", x.isLoop(), x.edges() == 4);
        });
    }

    static void promise14LoopLacksNoEdge() {
        LoopDiagram x = Grids.square();
        x.copy(5);
        for (int edge : new int[] {2, 3, 4, 5, 6, 9, 10, 11}) {
            x.draw(edge);
            Check.same("isLoop() without " + edge, x.isLoop(), false);
            x.draw(edge);
        }
        Check.same("isLoop()", x.isLoop(), true);
    }

    // "NoSuchElementException when it is no solution."
    static void promise15RankOfAnEmptyDrawing() {
        Grids.onAllSizes((x, rows, columns) -> Check.fails("rank()", Check.NO_SUCH, x::rank));
    }

    static void promise15RankOfAFullDrawing() {
        LoopDiagram x = new LoopDiagram(1, 2);
        Grids.draw(x, 0, 1, 2, 3, 4, 5, 6);
        Check.fails("rank()", Check.NO_SUCH, x::rank);
    }

    static void promise15RankOfALoopAgainstAClue() {
        LoopDiagram x = Grids.square();
        x.copy(8);
        x.clue(0, 0, 3);
        Check.fails("rank()", Check.NO_SUCH, x::rank);
        x.clue(0, 0, 4);
        Check.same("rank()", x.rank(), 0);
    }

    static void promise15RankOfTheFirstAndTheLastSolution() {
        LoopDiagram x = Grids.square();
        Grids.draw(x, 7, 8, 9, 11);
        Check.same("rank()", x.rank(), 0);
        Grids.draw(x, 7, 8, 9, 11, 0, 1, 2, 4, 5, 7);
        Check.same("rank()", x.rank(), 12);
    }

    // "How many solutions have all edges of the drawing."
    static void promise16AboveAnEmptyDrawingAreAll() {
        Grids.onAllSizes((x, rows, columns) -> Check.same("above()", x.above(), x.count()));
        Check.same("above() of one", unique().above(), 1);
    }

    static void promise16AboveAFullDrawing() {
        Grids.onAllSizes((x, rows, columns) -> {
            for (int edge = 0; edge < x.edges(); edge++) {
                x.draw(edge);
            }
            Check.same("above()", x.above(), x.edges() == 4 ? 1 : 0);
        });
    }

    static void promise16AboveWithoutASolution() {
        LoopDiagram x = unsolvable();
        Check.same("above()", x.above(), 0);
        x.draw(0);
        Check.same("above() of an edge", x.above(), 0);
    }

    static void promise16AboveASolutionIsThatAlone() {
        LoopDiagram x = Grids.square();
        for (int k = 0; k < 13; k++) {
            x.copy(k);
            Check.same("above()", x.above(), 1);
        }
    }

    // "The greatest k, 0 .. E"
    static void promise17AliveIsNoughtAtTheLeast() {
        Grids.onAllSizes((x, rows, columns) -> {
            x.clue(0, 0, 0);
            x.draw(0);
            Check.same("alive()", x.alive(), 0);
        });
    }

    static void promise17AliveIsAllEdgesAtTheMost() {
        Grids.onAllSizes((x, rows, columns) -> {
            x.copy(x.count() - 1);
            Check.same("alive()", x.alive(), x.edges());
        });
    }

    static void promise17AliveOfAFullDrawing() {
        LoopDiagram x = new LoopDiagram(4, 3);
        for (int edge = 0; edge < 31; edge++) {
            x.draw(edge);
        }
        // Edge 3 is the third at point 1.
        Check.same("alive()", x.alive(), 3);
    }

    // "Takes each clue away, row by row from the left, without which there is still just one"
    static void promise18SpareGoesFromTheLeft() {
        LoopDiagram x = new LoopDiagram(1, 2);
        // Each of both alone has the rim of both cells as its only solution.
        Grids.clues(x, Grids.row(3, 3));
        Check.same("spare()", x.spare(), 1);
        Check.same("clueOf(0, 0)", x.clueOf(0, 0), -1);
        Check.same("clueOf(0, 1)", x.clueOf(0, 1), 3);
    }

    static void promise18SpareGoesRowByRow() {
        LoopDiagram x = Grids.square();
        // Each of both alone has the rim of the second cell as its only solution.
        Grids.clues(x, Grids.row(-1, 4), Grids.row(0, -1));
        Check.same("spare()", x.spare(), 1);
        Check.same("clueOf(0, 1)", x.clueOf(0, 1), -1);
        Check.same("clueOf(1, 0)", x.clueOf(1, 0), 0);
    }

    static void promise18SpareGoesFromTheFirstCellToTheLast() {
        LoopDiagram x = Grids.square();
        Grids.clues(x, Grids.row(0, -1), Grids.row(-1, 4));
        Check.same("spare()", x.spare(), 1);
        Check.same("clueOf(0, 0)", x.clueOf(0, 0), -1);
        Check.same("clueOf(1, 1)", x.clueOf(1, 1), 4);
    }

    // "(and leaves it away)"
    static void promise18SpareLeavesCluesAway() {
        LoopDiagram x = Grids.square();
        Grids.clues(x, Grids.row(4, 1), Grids.row(1, 0));
        x.spare();
        Check.same("count()", x.count(), 1);
        x.clue(1, 1, -1);
        Check.same("count() without the last one", x.count(), 13);
    }

    // "Answers how many clues stay."
    static void promise18NoClueStays() {
        LoopDiagram x = new LoopDiagram(1, 1);
        x.clue(0, 0, 4);
        Check.same("spare()", x.spare(), 0);
        Check.same("clueOf(0, 0)", x.clueOf(0, 0), -1);
    }

    static void promise18NoClueIsThere() {
        Check.same("spare()", new LoopDiagram(1, 1).spare(), 0);
    }

    static void promise18AllCluesStay() {
        LoopDiagram x = Grids.square();
        // Four loops have three sides of the first cell, four one side of the second, one has both.
        Grids.clues(x, Grids.row(3, 1));
        Check.same("spare()", x.spare(), 2);
        Check.same("clueOf(0, 0)", x.clueOf(0, 0), 3);
        Check.same("clueOf(0, 1)", x.clueOf(0, 1), 1);
    }

    static void promise18ClueOfNoughtThatStaysCounts() {
        LoopDiagram x = Grids.square();
        x.clue(1, 1, 0);
        Check.same("spare()", x.spare(), 1);
        Check.same("clueOf(1, 1)", x.clueOf(1, 1), 0);
    }

    static void promise18SecondSpareTakesNothing() {
        LoopDiagram x = Grids.square();
        Grids.clues(x, Grids.row(4, 1), Grids.row(1, 0));
        Check.same("spare()", x.spare(), 1);
        Check.same("spare() again", x.spare(), 1);
        Check.same("clueOf(1, 1)", x.clueOf(1, 1), 0);
    }

    // "IllegalStateException when there is not just one solution."
    static void promise18SpareWithoutASolution() {
        Check.fails("spare()", Check.STATE, () -> unsolvable().spare());
    }

    static void promise18SpareWithTwoSolutions() {
        LoopDiagram x = Grids.square();
        Grids.clues(x, Grids.row(3, -1), Grids.row(-1, 1));
        Check.same("count()", x.count(), 2);
        Check.fails("spare()", Check.STATE, x::spare);
    }

    static void promise18SpareWithAllSolutions() {
        Grids.onAllSizes((x, rows, columns) -> {
            Class<?> due = x.edges() == 4 ? null : Check.STATE;
            Check.same("spare() throws", Check.thrownBy(x::spare) == due, true);
        });
    }

    // "NONE when it has none."
    static void promise19ClueOfACellWithoutOne() {
        LoopDiagram x = unique();
        Check.same("clueOf(0, 1)", x.clueOf(0, 1), LoopDiagram.NONE);
        Check.same("clueOf(1, 1)", x.clueOf(1, 1), -1);
    }

    static void promise19ClueOfNoughtIsNotNone() {
        LoopDiagram x = Grids.square();
        x.clue(0, 0, 0);
        Check.same("clueOf(0, 0)", x.clueOf(0, 0), 0);
    }

    // "IndexOutOfBoundsException when there is no such cell."
    static void promise19ClueOfNoCell() {
        Grids.onAllSizes((x, rows, columns) -> {
            for (int[] cell : Grids.cellsOutside(rows, columns)) {
                Check.fails("clueOf " + cell[0] + ", " + cell[1], Check.OUT, () -> x.clueOf(cell[0], cell[1]));
            }
        });
    }

    // "An object is used for at most 512 calls after it has been made"
    static void call512AnswersAfterClues() {
        LoopDiagram x = new LoopDiagram(4, 3);
        for (int call = 1; call < 512; call++) {
            x.clue(call % 4, call % 3, call % 5 == 0 ? call % 4 : -1);
        }
        LoopDiagram y = new LoopDiagram(4, 3);
        for (int call = 500; call < 512; call++) {
            y.clue(call % 4, call % 3, call % 5 == 0 ? call % 4 : -1);
        }
        Check.same("count()", x.count(), y.count());
    }

    static void call512AnswersAfterDraws() {
        LoopDiagram x = new LoopDiagram(4, 3);
        for (int call = 1; call < 512; call++) {
            x.draw(call % 31);
        }
        // 511 draws are 16 of each edge and one more of the edges 1 to 15.
        Check.same("drawn()", x.drawn(), 15);
    }

    static void call512AnswersAfterCopies() {
        LoopDiagram x = new LoopDiagram(4, 3);
        for (int call = 1; call < 512; call++) {
            x.copy(call * 2);
        }
        Check.same("rank()", x.rank(), 1022);
    }

    static void call512AnswersAfterSparesThatTakeAClue() {
        LoopDiagram x = new LoopDiagram(1, 2);
        for (int call = 1; call < 511; call += 2) {
            x.clue(0, call % 4 / 2, 3);
            Check.same("spare()", x.spare(), 1);
        }
        // The clue goes to the left cell and to the right one by turns: it stays in the right one.
        LoopDiagram y = new LoopDiagram(1, 2);
        Grids.clues(y, Grids.row(-1, 3));
        Check.same("count()", x.count(), 1);
        Check.same("nodes()", x.nodes(), y.nodes());
    }

    static void call512AnswersAQuestionAsBefore() {
        for (int i = 0; i < QUESTIONS.length; i++) {
            LoopDiagram x = new LoopDiagram(4, 3);
            x.clue(3, 2, 4);
            x.copy(0);
            int due = QUESTIONS[i].of(x);
            for (int call = 4; call <= 512; call++) {
                Check.same("question " + i + " as call " + call, QUESTIONS[i].of(x), due);
            }
        }
    }

    static void call512Refuses() {
        LoopDiagram x = new LoopDiagram(4, 3);
        for (int call = 1; call <= 512; call++) {
            Check.fails("copy(1049) as call " + call, Check.NO_SUCH, () -> x.copy(1049));
        }
    }
}
