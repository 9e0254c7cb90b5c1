/** Promises 24 and 25: settle(), endRetreats() and endBuilds() are undone. */
final class UndoTest {
    private static final String MAP = "land a center;land b center;land c;land d;border a b;border b c;border b d;border c d;"
            + "power p a;power q b;army p a;army p c;army q b;";

    public static void main(String[] args) {
        nothing();
        settlingUndone();
        throughAllPhases();
        sixAtMost();
        undoneAndGoneOn();
        buildsUndone();
        notForgottenByErrors();
        buffersStay();
        Check.end("UndoTest");
    }

    private static void nothing() {
        Game g = new Game(MAP);
        Check.equal("undoCount()", 0, g.settler.undoCount());
        Check.fails("undo()", IllegalStateException.class, g.settler::undo);
        g.tell("a to b;");
        Check.fails("undo() of what was told", IllegalStateException.class, g.settler::undo);
        Check.equal("the order stays", 1, g.settler.order(0, 0));
        g.settler.foresee(0, 0);
        g.settler.foreseeMove(0, 1);
        Check.equal("undoCount() behind foresee()", 0, g.settler.undoCount());
    }

    private static void settlingUndone() {
        Game g = new Game(MAP);
        g.tell("a to b;c support a to b;");
        String orders = g.orders();
        g.settler.settle();
        Check.equal("phase()", 1, g.settler.phase());
        Check.equal("undoCount()", 1, g.settler.undoCount());
        g.tell("b to d;");
        Check.equal("undo()", 0, g.settler.undo());
        Check.equal("undoCount() behind it", 0, g.settler.undoCount());
        Check.equal("phase() behind it", 0, g.settler.phase());
        Check.equal("turn() behind it", 1, g.settler.turn());
        Check.equal("orders", orders, g.orders());
        Check.equal("units", "p A a\nq A b\np A c\n", g.units());
        Check.equal("no dislodged unit", -1, g.settler.area(1, 6));
        Check.fails("result()", IllegalStateException.class, () -> g.settler.result(0, 0));
        Check.fails("outcomes()", IllegalStateException.class, g.settler::outcomes);
        Check.fails("isContested()", IllegalStateException.class, () -> g.settler.isContested(0) ? 1 : 0);
        Check.fails("undo() again", IllegalStateException.class, g.settler::undo);
        // Settled again, the unit has no retreat yet.
        g.settler.settle();
        Check.equal("gone", 1, g.settler.endRetreats());
    }

    private static void throughAllPhases() {
        Game g = new Game(MAP);
        g.settler.settle();
        g.tell("a to b;c support a to b;");
        g.settler.settle();
        g.tell("b to d;");
        Check.equal("gone", 0, g.settler.endRetreats());
        Check.equal("q must remove a unit", 2, g.settler.phase());
        Check.equal("p owns b", 0, g.settler.area(1, 3));
        g.tell("remove d;");
        Check.equal("endBuilds()", 0, g.settler.endBuilds());
        Check.equal("undoCount()", 4, g.settler.undoCount());
        Check.equal("turn()", 3, g.settler.turn());
        Check.equal("undo() of endBuilds()", 3, g.settler.undo());
        Check.equal("phase()", 2, g.settler.phase());
        Check.equal("what was removed stays so", "p A b\np A c\n", g.units());
        Check.equal("undo() of endRetreats()", 2, g.settler.undo());
        Check.equal("phase()", 1, g.settler.phase());
        Check.equal("q owns b", 1, g.settler.area(1, 3));
        Check.equal("the dislodged unit", 1, g.settler.area(1, 6));
        Check.equal("the latest settling", 1, g.settler.result(0, 0));
        Check.equal("the retreat that was told", 0, g.settler.endRetreats());
        Check.equal("where it goes", 1, g.settler.area(3, 4));
        Check.equal("undo() of that", 2, g.settler.undo());
        Check.equal("undo() of settle()", 1, g.settler.undo());
        Check.equal("phase()", 0, g.settler.phase());
        Check.equal("turn()", 2, g.settler.turn());
        Check.equal("the orders", "a to b;\nb hold;\nc support a to b;\n", g.orders());
        Check.equal("the settling before", 5, g.settler.result(0, 0));
        Check.equal("undo() of the first one", 0, g.settler.undo());
        Check.equal("turn()", 1, g.settler.turn());
    }

    private static void sixAtMost() {
        Game g = new Game("land a;land b;border a b;power p;");
        for (int i = 1; i <= 9; i++) {
            g.settler.settle();
            Check.equal("undoCount() behind settling " + i, Math.min(i, 6), g.settler.undoCount());
        }
        Check.equal("turn()", 10, g.settler.turn());
        for (int i = 1; i <= 6; i++) {
            Check.equal("undo() " + i, 6 - i, g.settler.undo());
            Check.equal("turn() behind it", 10 - i, g.settler.turn());
        }
        Check.fails("undo() 7", IllegalStateException.class, g.settler::undo);
        Check.equal("turn() still", 4, g.settler.turn());
        Check.equal("undoCount() still", 0, g.settler.undoCount());
    }

    private static void undoneAndGoneOn() {
        Game g = new Game("land a center;land b;land c;border a b;border b c;power p a;army p a;");
        g.tell("a to b;");
        g.settler.settle();
        g.settler.undo();
        g.tell("a hold;");
        g.settler.settle();
        Check.equal("the other way", "p A a\n", g.units());
        g.tell("a to b;");
        g.settler.settle();
        Check.equal("undo()", 1, g.settler.undo());
        Check.equal("the order that was told", 1, g.settler.order(0, 0));
        Check.equal("undo()", 0, g.settler.undo());
        Check.equal("the order that was told", 0, g.settler.order(0, 0));
        for (int i = 0; i < 7; i++) {
            g.settler.settle();
            g.tell("a hold;");
        }
        Check.equal("undoCount()", 6, g.settler.undoCount());
    }

    private static void buildsUndone() {
        Game g = BuildsTest.building();
        g.tell("build a army;");
        g.settler.endBuilds();
        g.tell("a to b;");
        Check.equal("undo() of endBuilds()", 2, g.settler.undo());
        Check.equal("what was built stays", 0, g.settler.area(0, 4));
        Check.equal("undo() of settle()", 1, g.settler.undo());
        Check.equal("what was built is gone", -1, g.settler.area(0, 4));
        Check.equal("what was taken is given back", -1, g.settler.area(4, 3));
        Check.equal("phase()", 0, g.settler.phase());
        Check.equal("turn()", 2, g.settler.turn());
    }

    /** A call that throws leaves what can be undone. */
    private static void notForgottenByErrors() {
        Game g = RetreatsTest.dislodged();
        Check.fails("settle()", IllegalStateException.class, g.settler::settle);
        Check.fails("endBuilds()", IllegalStateException.class, g.settler::endBuilds);
        g.refuses("^x disband;", 2);
        g.refusesMap("^x;", 1);
        Check.equal("undoCount()", 1, g.settler.undoCount());
        Check.equal("undo()", 0, g.settler.undo());
        Check.fails("endRetreats()", IllegalStateException.class, g.settler::endRetreats);
        Check.equal("undoCount()", 0, g.settler.undoCount());
    }

    /** The buffers and the error are not part of the game. */
    private static void buffersStay() {
        Game g = new Game(MAP);
        g.settler.settle();
        g.refuses("^x hold;", 2);
        int length = g.settler.writeUnits();
        g.feed("a hold;");
        g.settler.undo();
        Check.equal("errorCode()", 2, g.settler.errorCode());
        Check.equal("errorPosition()", 0, g.settler.errorPosition());
        Check.equal("the output", "p A a\nq A b\np A c\n", g.output(length));
        Check.equal("the input", 1, g.settler.tell(7));
    }
}
