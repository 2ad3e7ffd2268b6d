/**
 * "A call that throws, or (but for draw()) answers false, changes nothing; where several exceptions
 * that a call names would fit, it is the one that it names first."
 */
final class RefusedTest {
    /** Objects whose clues let in all, just one and no solution, each with a drawing. */
    private static LoopDiagram[] objects() {
        LoopDiagram all = Grids.square();
        Grids.draw(all, 0, 11);
        LoopDiagram one = Grids.square();
        Grids.clues(one, Grids.row(4, 1), Grids.row(-1, 0));
        Grids.draw(one, 0, 1, 3, 5);
        LoopDiagram none = Grids.square();
        Grids.clues(none, Grids.row(4, 4), Grids.row(2, -1));
        Grids.draw(none, 7, 8, 9);
        return new LoopDiagram[] {all, one, none};
    }

    /** All that an object answers. */
    private static String told(LoopDiagram x) {
        StringBuilder told = new StringBuilder("clues");
        for (int cell = 0; cell < 4; cell++) {
            told.append(' ').append(x.clueOf(cell / 2, cell % 2));
        }
        told.append(" drawing ").append(Grids.drawing(x)).append(" of ").append(x.drawn());
        told.append(" loop ").append(x.isLoop()).append(" above ").append(x.above());
        told.append(" alive ").append(x.alive());
        told.append(" rank ").append(Check.thrownBy(x::rank) == null ? x.rank() : -1);
        told.append(" count ").append(x.count()).append(" nodes ").append(x.nodes()).append(" widths");
        for (int k = 0; k <= x.edges(); k++) {
            told.append(' ').append(x.width(k, false)).append('/').append(x.width(k, true));
        }
        told.append(" lengths");
        for (int k = 0; k < x.count(); k++) {
            told.append(' ').append(x.length(k));
        }
        return told.toString();
    }

    private static void refused(LoopDiagram x, Class<? extends RuntimeException> due, Check.Call call) {
        String before = told(x);
        Check.fails("the call", due, call);
        Check.same("the object behind it", told(x), before);
    }

    private static void changesNothing(LoopDiagram x, Check.Call call) {
        String before = told(x);
        call.run();
        Check.same("the object behind it", told(x), before);
    }

    static void pointOfNoEdgeChangesNothing() {
        for (LoopDiagram x : objects()) {
            refused(x, Check.OUT, () -> x.point(12, true));
            refused(x, Check.OUT, () -> x.point(-1, false));
        }
    }

    static void clueOfNoCellChangesNothing() {
        for (LoopDiagram x : objects()) {
            for (int[] cell : Grids.cellsOutside(2, 2)) {
                refused(x, Check.OUT, () -> x.clue(cell[0], cell[1], 3));
            }
        }
    }

    static void wrongClueChangesNothing() {
        for (LoopDiagram x : objects()) {
            for (int v : new int[] {Integer.MIN_VALUE, -2, 5, Integer.MAX_VALUE}) {
                refused(x, Check.WRONG, () -> x.clue(0, 0, v));
                refused(x, Check.WRONG, () -> x.clue(1, 1, v));
            }
        }
    }

    static void widthOfNoLevelChangesNothing() {
        for (LoopDiagram x : objects()) {
            refused(x, Check.OUT, () -> x.width(13, true));
            refused(x, Check.OUT, () -> x.width(-1, false));
        }
    }

    static void hasOfNoSolutionChangesNothing() {
        for (LoopDiagram x : objects()) {
            refused(x, Check.NO_SUCH, () -> x.has(13, 0));
            refused(x, Check.NO_SUCH, () -> x.has(-1, 0));
        }
    }

    static void hasOfNoEdgeChangesNothing() {
        LoopDiagram x = objects()[1];
        refused(x, Check.OUT, () -> x.has(0, 12));
        refused(x, Check.OUT, () -> x.has(0, -1));
    }

    static void lengthOfNoSolutionChangesNothing() {
        for (LoopDiagram x : objects()) {
            refused(x, Check.NO_SUCH, () -> x.length(13));
            refused(x, Check.NO_SUCH, () -> x.length(-1));
        }
    }

    static void oftenOfNoEdgeChangesNothing() {
        for (LoopDiagram x : objects()) {
            refused(x, Check.OUT, () -> x.often(12));
            refused(x, Check.OUT, () -> x.often(-1));
        }
    }

    static void drawOfNoEdgeChangesNothing() {
        for (LoopDiagram x : objects()) {
            for (int edge : Grids.numbersOutside(12)) {
                refused(x, Check.OUT, () -> x.draw(edge));
            }
        }
    }

    static void copyOfNoSolutionChangesNothing() {
        for (LoopDiagram x : objects()) {
            for (int k : Grids.numbersOutside(13)) {
                refused(x, Check.NO_SUCH, () -> x.copy(k));
            }
        }
        LoopDiagram none = objects()[2];
        refused(none, Check.NO_SUCH, () -> none.copy(0));
    }

    static void rankOfNoSolutionChangesNothing() {
        LoopDiagram all = objects()[0];
        refused(all, Check.NO_SUCH, all::rank);
        LoopDiagram none = objects()[2];
        refused(none, Check.NO_SUCH, none::rank);
    }

    static void spareWithSeveralSolutionsChangesNothing() {
        LoopDiagram x = Grids.square();
        Grids.clues(x, Grids.row(3, -1), Grids.row(-1, 1));
        Grids.draw(x, 4, 5);
        refused(x, Check.STATE, x::spare);
        LoopDiagram all = objects()[0];
        refused(all, Check.STATE, all::spare);
    }

    static void spareWithoutASolutionChangesNothing() {
        LoopDiagram x = objects()[2];
        refused(x, Check.STATE, x::spare);
    }

    static void clueOfNoCellAskedForChangesNothing() {
        for (LoopDiagram x : objects()) {
            for (int[] cell : Grids.cellsOutside(2, 2)) {
                refused(x, Check.OUT, () -> x.clueOf(cell[0], cell[1]));
            }
        }
    }

    static void hasThatAnswersFalseChangesNothing() {
        LoopDiagram x = objects()[1];
        Check.same("has(0, 11)", x.has(0, 11), false);
        changesNothing(x, () -> x.has(0, 11));
    }

    static void isLoopThatAnswersFalseChangesNothing() {
        LoopDiagram x = objects()[0];
        Check.same("isLoop()", x.isLoop(), false);
        changesNothing(x, x::isLoop);
    }

    static void drawThatAnswersFalseTakesTheEdgeOut() {
        LoopDiagram x = objects()[0];
        Check.same("draw(0)", x.draw(0), false);
        Check.same("drawn()", x.drawn(), 1);
        Check.same("the drawing", Grids.drawing(x), 1 << 11);
    }

    static void spareChangesCluesAlone() {
        LoopDiagram x = objects()[1];
        int drawing = Grids.drawing(x);
        Check.same("spare()", x.spare(), 1);
        Check.same("the drawing", Grids.drawing(x), drawing);
    }

    static void clueChangesNoOtherClueAndNoDrawing() {
        LoopDiagram x = objects()[1];
        int drawing = Grids.drawing(x);
        x.clue(1, 0, 3);
        Check.same("clueOf(0, 0)", x.clueOf(0, 0), 4);
        Check.same("clueOf(0, 1)", x.clueOf(0, 1), 1);
        Check.same("clueOf(1, 0)", x.clueOf(1, 0), 3);
        Check.same("clueOf(1, 1)", x.clueOf(1, 1), 0);
        Check.same("the drawing", Grids.drawing(x), drawing);
    }

    static void clueOfNoCellIsSaidBeforeAWrongClue() {
        LoopDiagram x = Grids.square();
        for (int[] cell : Grids.cellsOutside(2, 2)) {
            Check.fails("clue " + cell[0] + ", " + cell[1], Check.OUT, () -> x.clue(cell[0], cell[1], 5));
            Check.fails("clue " + cell[0] + ", " + cell[1], Check.OUT, () -> x.clue(cell[0], cell[1], -2));
        }
    }

    static void noSolutionIsSaidBeforeNoEdge() {
        for (LoopDiagram x : objects()) {
            for (int k : Grids.numbersOutside(13)) {
                Check.fails("has(" + k + ", 12)", Check.NO_SUCH, () -> x.has(k, 12));
                Check.fails("has(" + k + ", -1)", Check.NO_SUCH, () -> x.has(k, -1));
            }
        }
    }
}
