/** The example of README.md, line by line. */
final class ReadmeTest {
    static void exampleAnswersAsReadmeSays() {
        LoopDiagram x = new LoopDiagram(2, 2);
        Check.same("count()", x.count(), 13);
        Check.same("often(0)", x.often(0), 7);
        x.clue(0, 0, 3);
        Check.same("count()", x.count(), 4);
        Check.same("length(0)", x.length(0), 6);
        Check.same("has(0, 5)", x.has(0, 5), false);
        Check.same("draw(2)", x.draw(2), true);
        Check.same("above()", x.above(), 2);
        x.copy(3);
        Check.same("isLoop()", x.isLoop(), true);
        Check.same("rank()", x.rank(), 3);
        Check.same("draw(7)", x.draw(7), false);
        Check.same("isLoop()", x.isLoop(), false);
        Check.same("alive()", x.alive(), 8);
        x.clue(1, 1, 1);
        Check.same("count()", x.count(), 2);
        x.clue(0, 1, 1);
        Check.same("count()", x.count(), 1);
        Check.same("spare()", x.spare(), 2);
        Check.same("clueOf(0, 0)", x.clueOf(0, 0), LoopDiagram.NONE);
    }
}
