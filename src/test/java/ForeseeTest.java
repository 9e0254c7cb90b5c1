import java.util.NoSuchElementException;

/** Promises 26 to 29: what a settling would bring, and who could go where; nothing changes by asking. */
final class ForeseeTest {
    // The areas: a 0, b 1, c 2, d 3 coasts; s 4 sea; e 5 land.
    private static final String MAP = "coast a;coast b;coast c;coast d;sea s;land e;"
            + "border a b;border b c;border a s;border d s;border c e;border b e;border c s;"
            + "power p;power q;army p a;army q c;fleet p s;army q e;";

    private static final Class<NoSuchElementException> NONE = NoSuchElementException.class;
    private static final Class<IllegalArgumentException> RANGE = IllegalArgumentException.class;
    private static final Class<IllegalStateException> STATE = IllegalStateException.class;

    public static void main(String[] args) {
        foreseen();
        nothingChanges();
        foreseeErrors();
        foreseenMoves();
        orderIsReplaced();
        foreseeMoveErrors();
        reach();
        threatened();
        Check.end("ForeseeTest");
    }

    private static void foreseen() {
        Game g = new Game(MAP);
        g.tell("a to b;c to b;e support c to b;s convoy a to d;");
        int[][] due = new int[6][6];
        for (int a = 0; a < 6; a++) {
            for (int what = 0; what < 6; what++) {
                due[a][what] = g.settler.foresee(a, what);
            }
        }
        Check.equal("the move of a", 2, due[0][0]);
        Check.equal("its reason", 3, due[0][4]);
        Check.equal("the move of c", 1, due[2][0]);
        Check.equal("its strength", 2, due[2][2]);
        Check.equal("the support of e", 3, due[5][0]);
        Check.equal("no unit", 0, due[1][0]);
        g.settler.settle();
        for (int a = 0; a < 6; a++) {
            for (int what = 0; what < 6; what++) {
                Check.equal("result(" + a + ", " + what + ")", due[a][what], g.settler.result(a, what));
            }
        }
    }

    private static void nothingChanges() {
        Game g = new Game(MAP);
        g.tell("c to b;");
        g.settler.settle();
        g.tell("b to c;a to b;");
        String orders = g.orders();
        Check.equal("a foreseen result", 1, g.settler.foresee(0, 0));
        Check.equal("a foreseen move", 1, g.settler.foreseeMove(0, 1));
        Check.equal("a foreseen move by sea without a convoy", 0, g.settler.foreseeMove(0, 3));
        Check.equal("the orders", orders, g.orders());
        Check.equal("the latest result of a", 5, g.settler.result(0, 0));
        Check.equal("the latest result of c", 1, g.settler.result(2, 0));
        Check.equal("the latest outcomes", 1, g.settler.outcomes());
        Check.isFalse("the latest contests", g.settler.isContested(1));
        Check.equal("phase()", 0, g.settler.phase());
        Check.equal("turn()", 2, g.settler.turn());
        Check.equal("undoCount()", 1, g.settler.undoCount());
        // What would dislodge a unit dislodges none.
        Game b = new Game("land a;land b;land c;border a b;border c b;power p;power q;army p a;army p c;army q b;");
        b.tell("c support a to b;");
        Check.equal("it would succeed", 1, b.settler.foreseeMove(0, 1));
        Check.equal("the order of a", 0, b.settler.order(0, 0));
        Check.equal("no dislodged unit", -1, b.settler.area(1, 6));
        Check.fails("no result", STATE, () -> b.settler.result(0, 0));
        Check.fails("no outcomes", STATE, b.settler::outcomes);
        Check.fails("no contests", STATE, () -> b.settler.isContested(0) ? 1 : 0);
    }

    private static void foreseeErrors() {
        Game g = new Game(MAP);
        for (int area : new int[] {-1, 6, 16, Integer.MIN_VALUE, Integer.MAX_VALUE}) {
            Check.fails("area " + area, NONE, () -> g.settler.foresee(area, 0));
            Check.fails("area " + area + " of what 6", NONE, () -> g.settler.foresee(area, 6));
        }
        for (int what : new int[] {-1, 6, Integer.MIN_VALUE, Integer.MAX_VALUE}) {
            Check.fails("what " + what, RANGE, () -> g.settler.foresee(0, what));
        }
        Game out = RetreatsTest.dislodged();
        Check.fails("no area in RETREATS", NONE, () -> out.settler.foresee(6, 6));
        Check.fails("what 6 in RETREATS", RANGE, () -> out.settler.foresee(0, 6));
        Check.fails("in RETREATS", STATE, () -> out.settler.foresee(0, 0));
        Check.fails("in BUILDS", STATE, () -> BuildsTest.building().settler.foresee(0, 0));
    }

    private static void foreseenMoves() {
        Game g = new Game(MAP);
        Check.equal("to an empty area", 1, g.settler.foreseeMove(0, 1));
        Check.equal("to a unit of its power", 0, g.settler.foreseeMove(5, 2));
        Check.equal("to a unit that holds", 0, g.settler.foreseeMove(4, 2));
        g.tell("s convoy a to d;c to b;");
        Check.equal("by sea", 1, g.settler.foreseeMove(0, 3));
        Check.equal("against another move", 0, g.settler.foreseeMove(0, 1));
        Check.equal("after a unit that leaves", 1, g.settler.foreseeMove(5, 2));
        Check.equal("the move that it has", 1, g.settler.foreseeMove(2, 1));
    }

    /** The order of the unit counts for nothing if it had a move. */
    private static void orderIsReplaced() {
        Game g = new Game(MAP);
        g.tell("a to b;c to b;");
        Check.equal("c's own move to b", 0, g.settler.foreseeMove(2, 1));
        Check.equal("a's move if c had another one", 0, g.settler.foreseeMove(2, 5));
        Check.equal("c's order as it was", 2, g.settler.foresee(2, 0));
        Game ring = new Game("land a;land b;land c;border a b;border b c;border a c;power p;"
                + "army p a;army p b;army p c;");
        ring.tell("b to c;c to a;a support b to c;");
        Check.equal("the last one of a ring", 1, ring.settler.foreseeMove(0, 1));
        Check.equal("the ring is not made", 2, ring.settler.foresee(1, 0));
    }

    private static void foreseeMoveErrors() {
        Game g = new Game(MAP);
        for (int area : new int[] {-1, 6, 16, Integer.MIN_VALUE, Integer.MAX_VALUE}) {
            Check.fails("from " + area, NONE, () -> g.settler.foreseeMove(area, 1));
            Check.fails("to " + area, NONE, () -> g.settler.foreseeMove(0, area));
        }
        Check.fails("no unit", NONE, () -> g.settler.foreseeMove(1, 0));
        Check.fails("no unit and no goal", NONE, () -> g.settler.foreseeMove(1, 6));
        Check.fails("to itself", RANGE, () -> g.settler.foreseeMove(0, 0));
        Check.fails("an army to a sea", RANGE, () -> g.settler.foreseeMove(0, 4));
        Check.fails("an army to land afar", RANGE, () -> g.settler.foreseeMove(0, 5));
        Check.fails("a fleet afar", RANGE, () -> g.settler.foreseeMove(4, 1));
        Check.fails("a fleet to itself", RANGE, () -> g.settler.foreseeMove(4, 4));
        Game out = RetreatsTest.dislodged();
        Check.fails("no unit in RETREATS", NONE, () -> out.settler.foreseeMove(0, 1));
        Check.fails("not allowed in RETREATS", RANGE, () -> out.settler.foreseeMove(1, 5));
        Check.fails("in RETREATS", STATE, () -> out.settler.foreseeMove(1, 0));
        Check.fails("in BUILDS", STATE, () -> BuildsTest.building().settler.foreseeMove(4, 1));
    }

    private static void reach() {
        Game g = new Game(MAP);
        int[][] due = {{1, 0}, {1, 2}, {1, 1}, {1, 0}, {0, 0}, {0, 1}};
        for (int a = 0; a < 6; a++) {
            Check.equal("p's units to " + a, due[a][0], g.settler.reach(a, 0, false));
            Check.equal("others than p's to " + a, due[a][1], g.settler.reach(a, 0, true));
            Check.equal("q's units to " + a, due[a][1], g.settler.reach(a, 1, false));
            Check.equal("others than q's to " + a, due[a][0], g.settler.reach(a, 1, true));
        }
        for (int area : new int[] {-1, 6, Integer.MIN_VALUE, Integer.MAX_VALUE}) {
            Check.fails("area " + area, NONE, () -> g.settler.reach(area, 0, false));
        }
        for (int power : new int[] {-1, 2, Integer.MIN_VALUE, Integer.MAX_VALUE}) {
            Check.fails("power " + power, NONE, () -> g.settler.reach(0, power, true));
        }
    }

    private static void threatened() {
        String land = "land a;land b;land c;land d;border a b;border a c;border a d;power p;power q;power r;army p a;";
        Check.isFalse("one of another power", new Game(land + "army q b;").settler.isThreatened(0));
        Check.isTrue("two of another power", new Game(land + "army q b;army q c;").settler.isThreatened(0));
        Check.isTrue("two of two powers", new Game(land + "army q b;army r c;").settler.isThreatened(0));
        Check.isFalse("one of its own with it", new Game(land + "army q b;army r c;army p d;").settler.isThreatened(0));
        Check.isTrue("three", new Game(land + "army q b;army r c;army q d;").settler.isThreatened(0));
        Game g = new Game(land + "army q b;");
        Check.fails("no unit", NONE, () -> g.settler.isThreatened(2) ? 1 : 0);
        for (int area : new int[] {-1, 4, Integer.MIN_VALUE, Integer.MAX_VALUE}) {
            Check.fails("area " + area, NONE, () -> g.settler.isThreatened(area) ? 1 : 0);
        }
    }
}
