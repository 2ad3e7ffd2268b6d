/**
 * The sentences under "Terms" that name a boundary, one test each, with the sentence above it.
 * "Dies at k" says: the drawing's edges below k - 1 are alive, those below k are not.
 */
final class TermsTest {

    private static void diesAt(LoopDiagram x, int k) {
        Check.same("alive()", x.alive(), k - 1);
    }

    private static void width(LoopDiagram x, int k, int all, int useful) {
        Check.same("width(" + k + ", false)", x.width(k, false), all);
        Check.same("width(" + k + ", true)", x.width(k, true), useful);
    }

    // "THE GRID has R rows (1 .. 4) and C columns (1 .. 3) of cells"
    static void gridIsOneCellAtTheLeast() {
        LoopDiagram x = new LoopDiagram(1, 1);
        Check.same("edges()", x.edges(), 4);
        Check.same("clueOf(0, 0)", x.clueOf(0, 0), -1);
        Check.fails("clueOf(1, 0)", Check.OUT, () -> x.clueOf(1, 0));
        Check.fails("clueOf(0, 1)", Check.OUT, () -> x.clueOf(0, 1));
    }

    static void gridIsTwelveCellsAtTheMost() {
        LoopDiagram x = new LoopDiagram(4, 3);
        Check.same("edges()", x.edges(), 31);
        Check.same("clueOf(3, 2)", x.clueOf(3, 2), -1);
        Check.fails("clueOf(4, 2)", Check.OUT, () -> x.clueOf(4, 2));
        Check.fails("clueOf(3, 3)", Check.OUT, () -> x.clueOf(3, 3));
    }

    // "(R + 1)(C + 1) POINTS, numbered 0, 1, .. row by row, each row from the left"
    static void firstAndLastPoint() {
        Grids.onAllSizes((x, rows, columns) -> {
            int last = (rows + 1) * (columns + 1) - 1;
            Check.same("point(0, false)", x.point(0, false), 0);
            Check.same("the last point", x.point(x.edges() - 1, true), last);
        });
    }

    // "for each one first the edge to the point on its right, then the one to the point below it"
    static void edgesGoToTheRightBeforeTheyGoDown() {
        Grids.onAllSizes((x, rows, columns) -> {
            Check.same("point(0, true)", x.point(0, true), 1);
            Check.same("point(1, false)", x.point(1, false), 0);
            Check.same("point(1, true)", x.point(1, true), columns + 1);
        });
    }

    // "if there is such a point"
    static void lastPointOfARowHasNoEdgeToTheRight() {
        Grids.onAllSizes((x, rows, columns) -> {
            for (int edge = 0; edge < x.edges(); edge++) {
                int from = x.point(edge, false);
                boolean last = from % (columns + 1) == columns;
                boolean right = x.point(edge, true) == from + 1;
                Check.same("right from a last point", last && right, false);
            }
        });
    }

    static void pointsOfTheLastRowHaveNoEdgeDown() {
        Grids.onAllSizes((x, rows, columns) -> {
            int lastRow = rows * (columns + 1);
            for (int edge = x.edges() - columns; edge < x.edges(); edge++) {
                int from = lastRow + edge - (x.edges() - columns);
                Check.same("point(" + edge + ", false)", x.point(edge, false), from);
                Check.same("point(" + edge + ", true)", x.point(edge, true), from + 1);
            }
        });
    }

    // "perhaps a CLUE, 0 .. 4"
    static void clueOfNoughtLetsNoSideIn() {
        LoopDiagram x = Grids.square();
        x.clue(0, 0, 0);
        // Of the loops only the cell at the opposite corner has no side of this one.
        Check.same("count()", x.count(), 1);
        Check.same("has(0, 11)", x.has(0, 11), true);
    }

    static void clueOfFourLetsAllSidesIn() {
        LoopDiagram x = Grids.square();
        x.clue(1, 1, 4);
        Check.same("count()", x.count(), 1);
        Check.same("length(0)", x.length(0), 4);
        Check.same("has(0, 11)", x.has(0, 11), true);
    }

    // "A LOOP is a set of edges, not empty"
    static void emptySetIsNoLoop() {
        Grids.onAllSizes((x, rows, columns) -> Check.same("isLoop()", x.isLoop(), false));
    }

    static void emptySetIsNoSolutionEvenIfAllCluesAreNought() {
        Grids.onAllSizes((x, rows, columns) -> {
            Grids.sameClueEverywhere(x, rows, columns, 0);
            Check.same("count()", x.count(), 0);
            Check.fails("rank()", Check.NO_SUCH, x::rank);
        });
    }

    // "every point has none or two of them"
    static void setWithAPointOfOneEdgeIsNoLoop() {
        LoopDiagram x = Grids.square();
        Grids.draw(x, 0, 1, 3, 5, 11);
        Check.same("isLoop() with an edge apart", x.isLoop(), false);
        Grids.draw(x, 11, 5);
        Check.same("isLoop() of a path", x.isLoop(), false);
    }

    static void setWithAPointOfThreeEdgesIsNoLoop() {
        LoopDiagram x = new LoopDiagram(1, 2);
        Grids.draw(x, 0, 1, 2, 3, 4, 5, 6);
        Check.same("isLoop()", x.isLoop(), false);
        x.draw(3);
        Check.same("isLoop() without the middle", x.isLoop(), true);
    }

    static void setWithAPointOfFourEdgesIsNoLoop() {
        LoopDiagram x = Grids.square();
        Grids.draw(x, 0, 1, 3, 5, 7, 8, 9, 11);
        Check.same("isLoop()", x.isLoop(), false);
        Grids.draw(x, 5, 6, 8, 10);
        Check.same("isLoop() round the third cell too", x.isLoop(), true);
    }

    // "one comes along them from each one to all others"
    static void twoLoopsSideBySideAreNoLoop() {
        LoopDiagram x = new LoopDiagram(1, 3);
        Grids.draw(x, 0, 1, 3, 7, 4, 5, 6, 9);
        Check.same("isLoop()", x.isLoop(), false);
    }

    static void twoLoopsOneBelowTheOtherAreNoLoop() {
        LoopDiagram x = new LoopDiagram(3, 1);
        Grids.draw(x, 0, 1, 2, 3, 6, 7, 8, 9);
        Check.same("isLoop()", x.isLoop(), false);
        Grids.draw(x, 0, 1, 2, 3);
        Check.same("isLoop() of the lower", x.isLoop(), true);
    }

    // "It is a SOLUTION if each cell with a clue has just so many sides in it."
    static void loopWithASideLessOrMoreThanAClueIsNoSolution() {
        for (int clue = 0; clue <= 4; clue++) {
            LoopDiagram x = Grids.square();
            // Two sides of the third cell are in it, four of the first one.
            x.clue(0, 0, clue);
            Grids.draw(x, 0, 1, 3, 6, 7, 9, 10, 11);
            boolean fits = clue == 3;
            Check.same("rank() with a " + clue, Check.thrownBy(x::rank) == null, fits);
            Check.same("above() with a " + clue, x.above(), fits ? 1 : 0);
        }
    }

    static void eachClueCounts() {
        LoopDiagram x = Grids.square();
        x.copy(7);
        Grids.clues(x, Grids.row(3, 2), Grids.row(2, 3));
        Check.same("rank()", x.rank(), 0);
        for (int cell = 0; cell < 4; cell++) {
            int clue = x.clueOf(cell / 2, cell % 2);
            x.clue(cell / 2, cell % 2, clue - 1);
            Check.fails("rank() with cell " + cell + " wrong", Check.NO_SUCH, x::rank);
            x.clue(cell / 2, cell % 2, clue);
        }
    }

    // "A BEGINNING of length k (0 .. E)"
    static void onlyTheEmptyBeginningHasLengthNought() {
        Grids.onAllSizes((x, rows, columns) -> {
            width(x, 0, 1, 1);
            // There is no solution, but the empty beginning stays alive.
            Grids.sameClueEverywhere(x, rows, columns, 0);
            width(x, 0, 1, 0);
        });
    }

    static void allSolutionsAreOneNodeOfTheLastLevel() {
        Grids.onAllSizes((x, rows, columns) -> {
            width(x, x.edges(), 1, 1);
            Grids.sameClueEverywhere(x, rows, columns, 0);
            width(x, x.edges(), 0, 0);
        });
    }

    // "no point has more than two of its edges"
    static void beginningDiesOfAThirdEdgeDown() {
        LoopDiagram x = Grids.square();
        // Edge 3 goes down from point 1, which has the edges 0 and 2.
        Grids.draw(x, 0, 1, 2, 3);
        diesAt(x, 4);
        LoopDiagram y = Grids.square();
        // Edge 8 goes down from point 4, which has the edges 3 and 5.
        Grids.draw(y, 2, 3, 4, 5, 6, 8);
        diesAt(y, 9);
    }

    static void beginningDiesOfAThirdEdgeToTheRight() {
        LoopDiagram x = new LoopDiagram(2, 3);
        // Edge 9 goes to the right from point 5, which has the edges 3 and 7.
        Grids.draw(x, 2, 3, 4, 6, 7, 8, 9);
        diesAt(x, 10);
    }

    // "no point all of whose edges are below k has just one"
    static void beginningDiesWithTheLastEdgeOfAPointThatHasOne() {
        LoopDiagram corner = Grids.square();
        corner.draw(0);
        diesAt(corner, 2);
        LoopDiagram middle = Grids.square();
        // Point 1 has edge 2 alone when edge 3 goes by.
        Grids.draw(middle, 2, 4, 7);
        diesAt(middle, 4);
        LoopDiagram lowest = Grids.square();
        // Point 6 has edge 6 alone when edge 10 goes by, though point 7 waits for edge 11 still.
        Grids.draw(lowest, 5, 6, 7, 9, 11);
        diesAt(lowest, 11);
        LoopDiagram last = Grids.square();
        // Points 7 and 8 have one edge each when the last edge goes by.
        Grids.draw(last, 7, 8, 9);
        diesAt(last, 12);
    }

    static void pointWithEdgesToComeMayHaveOne() {
        LoopDiagram x = Grids.square();
        Grids.draw(x, 0, 1, 3, 6, 8, 10);
        Check.same("alive()", x.alive(), 12);
    }

    static void lastEdgeAloneDies() {
        Grids.onAllSizes((x, rows, columns) -> {
            x.draw(x.edges() - 1);
            diesAt(x, x.edges());
        });
    }

    // "if some of its edges make a loop, it has no others"
    static void loopBesideAPathDies() {
        LoopDiagram x = new LoopDiagram(1, 3);
        Grids.draw(x, 0, 1, 3, 4, 5, 6, 7);
        diesAt(x, 8);
    }

    static void loopInsideAPathDies() {
        LoopDiagram x = new LoopDiagram(3, 3);
        // Edge 16 closes the middle cell; round it goes a path with both ends open.
        Grids.draw(x, 0, 1, 2, 4, 6, 8, 13, 15, 9, 10, 12, 16);
        diesAt(x, 17);
    }

    static void loopDiesOfAnotherEdgeBehindIt() {
        LoopDiagram x = new LoopDiagram(2, 3);
        // The edge from point 6 to point 7 leaves both with edges to come.
        Grids.draw(x, 0, 1, 3, 7, 11);
        diesAt(x, 12);
    }

    static void loopAloneStaysAliveToTheEnd() {
        Grids.onAllSizes((x, rows, columns) -> {
            Grids.draw(x, 0, 1, 3, columns == 1 ? 2 : 2 * columns + 1);
            Check.same("isLoop()", x.isLoop(), true);
            Check.same("alive()", x.alive(), x.edges());
        });
    }

    // "a cell with a clue has not more sides in it than that"
    static void beginningDiesOfTheFirstSideTooMany() {
        int[] sides = {0, 1, 3, 5};
        for (int clue = 0; clue < 4; clue++) {
            LoopDiagram x = Grids.square();
            x.copy(8);
            x.clue(0, 0, clue);
            diesAt(x, sides[clue] + 1);
        }
    }

    static void beginningDiesOfASideOfTheCellOnTheLeft() {
        LoopDiagram x = Grids.square();
        // Edge 8 is the left side of the fourth cell and the only one here of the third.
        x.copy(0);
        x.clue(1, 0, 0);
        diesAt(x, 9);
    }

    static void asManySidesAsTheClueAreNotTooMany() {
        LoopDiagram x = Grids.square();
        x.copy(8);
        Grids.clues(x, Grids.row(4, 1), Grids.row(1, 0));
        Check.same("alive()", x.alive(), 12);
    }

    // "and, if all its sides are below k, just so many"
    static void beginningDiesWithTheLastSideOfACellThatHasTooFew() {
        int[] lastSide = {5, 7, 10, 11};
        for (int cell = 0; cell < 4; cell++) {
            for (int clue = 1; clue <= 4; clue++) {
                LoopDiagram x = Grids.square();
                x.clue(cell / 2, cell % 2, clue);
                diesAt(x, lastSide[cell] + 1);
            }
        }
    }

    static void beginningDiesOfOneSideTooFew() {
        LoopDiagram x = Grids.square();
        x.copy(6);
        x.clue(0, 0, 3);
        Check.same("alive() with a 3", x.alive(), 12);
        x.clue(0, 0, 4);
        diesAt(x, 6);
    }

    // "and, for k = E, it is not empty"
    static void emptyBeginningDiesAtTheEnd() {
        Grids.onAllSizes((x, rows, columns) -> {
            diesAt(x, x.edges());
            Grids.sameClueEverywhere(x, rows, columns, 0);
            diesAt(x, x.edges());
            Check.same("nodes()", x.nodes(), x.edges());
        });
    }

    // "the same CLOSED (whether they are a loop)"
    static void loopIsNotAlikeToTheEmptyBeginning() {
        // Behind edge 5 the points 4 and 5 are open: no edges, no edges and closed, ends of a path.
        width(new LoopDiagram(2, 1), 6, 3, 2);
    }

    // "for each point with an edge below k and one not below k (an OPEN one) the same number"
    static void openPointWithTwoEdgesIsNotAlikeToOneWithNone() {
        // Behind edge 7 the points 6, 4 and 5 are open. The paths that end at 6 and 5 may have gone
        // through 4 or not, those that end at 6 and 4 through 5 or not. With them there are nothing,
        // the path that ends at 4 and 5, and the loops with edges at 4 and with edges at both.
        width(Grids.square(), 8, 8, 7);
    }

    static void openPointWithOneEdgeIsNotAlikeToOneWithNone() {
        width(new LoopDiagram(1, 1), 1, 2, 1);
    }

    static void pointsThatAreOpenNoMoreDoNotTellApart() {
        // Behind edge 3: nothing, the loop, and two ways to come to both open points. From nothing
        // no loop can be made without edge 3.
        width(new LoopDiagram(2, 1), 4, 3, 2);
    }

    // "and, if that is one, the same point at the other end of the path that they make there"
    static void pathsWithOtherEndsAreNotAlike() {
        // Behind edge 13 the points 8 to 11 are open, with none or one edge each: nothing, the loop,
        // six ways to choose the ends of one path, two paths side by side, two one in the other. Of
        // these nothing and the paths side by side can't be made a loop.
        width(new LoopDiagram(2, 3), 14, 10, 8);
    }

    // "for each cell with a clue and with sides below and not below k the same number of sides"
    static void cellsWithOtherNumbersOfSidesAreNotAlike() {
        LoopDiagram x = new LoopDiagram(2, 1);
        x.clue(1, 0, 4);
        // Behind edge 3, which is a side of the lower cell: nothing, the edge, the other way to come
        // to both its ends, the loop. Only the edge can be made four sides of the lower cell.
        width(x, 4, 4, 1);
    }

    static void cellsWithoutAClueDoNotTellApart() {
        LoopDiagram x = new LoopDiagram(2, 1);
        x.clue(1, 0, 4);
        x.clue(1, 0, -1);
        width(x, 4, 3, 2);
    }

    static void cellsWhoseSidesAreAllBelowDoNotTellApart() {
        LoopDiagram x = new LoopDiagram(2, 1);
        x.clue(0, 0, 1);
        // Behind edge 3, the upper cell's last: that edge alone.
        width(x, 4, 1, 1);
        // Behind edge 4 and edge 5 it goes on in one way, and with edge 6 it is the lower cell.
        width(x, 5, 1, 1);
        width(x, 7, 1, 1);
    }

    // "A node is USEFUL if a beginning of it (and so all) can be made a solution by edges not below"
    static void aliveNodeThatCanNotBeMadeASolutionIsNotUseful() {
        LoopDiagram x = new LoopDiagram(1, 1);
        // Nothing and both edges of the first corner are alive; one can't be saved.
        width(x, 2, 2, 1);
        width(x, 3, 2, 1);
    }

    static void nodeThatIsASolutionAlreadyIsUseful() {
        LoopDiagram x = Grids.square();
        Grids.clues(x, Grids.row(4, -1), Grids.row(-1, 0));
        // Behind edge 9: the loop, which has all it needs, and no other, for the clue of four.
        width(x, 10, 1, 1);
        width(x, 12, 1, 1);
    }

    static void noNodeIsUsefulWithoutSolutions() {
        LoopDiagram x = Grids.square();
        Grids.clues(x, Grids.row(4, 4), Grids.row(-1, -1));
        for (int k = 0; k <= 12; k++) {
            Check.same("width(" + k + ", true)", x.width(k, true), 0);
        }
        Check.same("nodes()", x.nodes() > 0, true);
    }

    // "of two the one comes first that does not have the least edge in which they differ"
    static void solutionWithoutTheLeastDifferingEdgeComesFirst() {
        Grids.onAllSizes((x, rows, columns) -> {
            for (int k = 1; k < x.count(); k++) {
                int edge = 0;
                while (x.has(k - 1, edge) == x.has(k, edge)) {
                    edge++;
                }
                Check.same("has(" + k + ", " + edge + ")", x.has(k, edge), true);
            }
        });
    }

    // "SOLUTIONS are ranked 0, 1, .."
    static void ranksGoFromNoughtToOneLessThanTheCount() {
        Grids.onAllSizes((x, rows, columns) -> {
            int last = x.count() - 1;
            x.copy(0);
            Check.same("rank() of the first", x.rank(), 0);
            x.copy(last);
            Check.same("rank() of the last", x.rank(), last);
            Check.fails("copy() behind it", Check.NO_SUCH, () -> x.copy(last + 1));
            Check.fails("copy() before it", Check.NO_SUCH, () -> x.copy(-1));
        });
    }

    // "THE DRAWING is a set of edges, at first empty"
    static void drawingIsEmptyAtFirst() {
        Grids.onAllSizes((x, rows, columns) -> {
            Check.same("drawn()", x.drawn(), 0);
            Check.same("the drawing", Grids.drawing(x), 0);
        });
    }
}
