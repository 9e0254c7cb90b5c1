import java.util.NoSuchElementException;

/** Promises 21 and 22: dislodged units retreat or are gone. */
final class RetreatsTest {
    private static final int SYNTAX = 1;
    private static final int UNKNOWN = 2;
    private static final int FORBIDDEN = 4;

    public static void main(String[] args) {
        state();
        places();
        contested();
        attackers();
        texts();
        lastOneCounts();
        ending();
        sameGoal();
        phases();
        centersBehindRetreats();
        Check.end("RetreatsTest");
    }

    /** A game in which q's army at b was dislodged from a; it may go to d or e. */
    static Game dislodged() {
        Game g = new Game("land a;land b;land c;land d;land e;land f;border a b;border b c;border b d;border b e;border d e;"
                + "border a f;border c f;power p;power q;army p a;army p c;army q b;");
        g.tell("a to b;c support a to b;");
        Check.equal("settle", 1, g.settler.settle());
        return g;
    }

    private static void state() {
        Game g = dislodged();
        Check.equal("phase()", 1, g.settler.phase());
        Check.equal("turn()", 1, g.settler.turn());
        Check.equal("the unit at b", 0, g.settler.area(1, 4));
        Check.equal("the dislodged unit's power", 1, g.settler.area(1, 6));
        Check.equal("the dislodged unit's kind", 0, g.settler.area(1, 7));
        Check.equal("none at a", -1, g.settler.area(0, 6));
        Check.equal("none at c", -1, g.settler.area(2, 7));
        Check.equal("dislodged units are not counted", 0, g.settler.power(1, 1));
        Check.equal("units", "p A b\np A c\n", g.units());
    }

    private static void places() {
        Game g = dislodged();
        Check.isFalse("where the attacker came from", g.settler.mayRetreat(1, 0));
        Check.isFalse("where it is", g.settler.mayRetreat(1, 1));
        Check.isFalse("where a unit is", g.settler.mayRetreat(1, 2));
        Check.isTrue("a free area", g.settler.mayRetreat(1, 3));
        Check.isTrue("another one", g.settler.mayRetreat(1, 4));
        Check.isFalse("no border", g.settler.mayRetreat(1, 5));
        for (int area : new int[] {-1, 6, 16, Integer.MIN_VALUE, Integer.MAX_VALUE}) {
            Check.fails("from " + area, NoSuchElementException.class, () -> g.settler.mayRetreat(area, 3) ? 1 : 0);
            Check.fails("to " + area, NoSuchElementException.class, () -> g.settler.mayRetreat(1, area) ? 1 : 0);
        }
        Check.fails("no dislodged unit", NoSuchElementException.class, () -> g.settler.mayRetreat(2, 3) ? 1 : 0);
        Game none = new Game("land a;land b;border a b;power p;army p a;");
        Check.fails("in ORDERS", NoSuchElementException.class, () -> none.settler.mayRetreat(0, 1) ? 1 : 0);
    }

    private static void contested() {
        Game g = new Game("land a;land b;land c;land d;land e;land f;border a b;border b c;border b d;border b e;border d f;"
                + "border d e;power p;power q;army p a;army p c;army q b;army p f;army q e;");
        g.tell("a to b;c support a to b;f to d;e to d;");
        Check.equal("settle", 1, g.settler.settle());
        Check.isTrue("two moves to d met", g.settler.isContested(3));
        Check.isFalse("nobody went to f", g.settler.isContested(5));
        Check.isFalse("a contested area", g.settler.mayRetreat(1, 3));
        Check.isFalse("where one of them stayed", g.settler.mayRetreat(1, 4));
        g.refuses("b to ^d;", FORBIDDEN);
    }

    private static void attackers() {
        // The attacker comes by sea: its area is no place from which a direct move came.
        Game g = new Game("coast a;sea s;coast b;land c;border a s;border s b;border a b fleet;border b c;"
                + "power p;power q;army p a;fleet p s;army p c;fleet q b;");
        g.tell("a to b;s convoy a to b;c support a to b;");
        Check.equal("settle", 1, g.settler.settle());
        Check.isTrue("where a move by sea came from", g.settler.mayRetreat(2, 0));
        Check.isFalse("where no fleet can go", g.settler.mayRetreat(2, 3));
        Check.equal("the retreat", 1, g.tell("b to a;"));
        Check.equal("gone", 0, g.settler.endRetreats());
        Check.equal("units", "q F a\np F s\np A b\np A c\n", g.units());
        // The same with a move on land.
        Game land = new Game("coast a;coast b;land c;border a b;border b c;power p;power q;"
                + "army p a;army p c;fleet q b;");
        land.tell("a to b;c support a to b;");
        Check.equal("settle", 1, land.settler.settle());
        Check.isFalse("where a direct move came from", land.settler.mayRetreat(1, 0));
    }

    private static void texts() {
        Game g = dislodged();
        g.refuses("^a to d;", UNKNOWN);
        g.refuses("^c disband;", UNKNOWN);
        g.refuses("^x disband;", UNKNOWN);
        g.refuses("b to ^x;", UNKNOWN);
        g.refuses("b to ^a;", FORBIDDEN);
        g.refuses("b to ^c;", FORBIDDEN);
        g.refuses("b to ^b;", FORBIDDEN);
        g.refuses("b to ^f;", FORBIDDEN);
        for (String text : new String[] {"b^", "b ^;", "b ^hold;", "b ^d;", "b to^", "b to ^;", "b to d^", "b to d ^e;",
            "b disband^", "b disband ^b;", "b ^support d;", "b ^convoy a to c;", "^build b army;", "^remove b;",
            "b to ^disband;", "b to ^abcdef;", "b ^remove;", "^;", "b disband;^;"}) {
            g.refuses(text, SYNTAX);
        }
        Check.equal("nothing told", 1, g.settler.endRetreats());
        Check.equal("units", "p A b\np A c\n", g.units());
    }

    private static void lastOneCounts() {
        Game g = dislodged();
        Check.equal("retreats told", 3, g.tell("b to d;b disband;b to e;"));
        Check.equal("gone", 0, g.settler.endRetreats());
        Check.equal("units", "p A b\np A c\nq A e\n", g.units());
        Game gone = dislodged();
        gone.tell("b to d;");
        Check.equal("retreats told", 1, gone.tell("b disband;"));
        Check.equal("gone", 1, gone.settler.endRetreats());
        Game kept = dislodged();
        kept.tell("b to d;");
        kept.refuses("b disband;b to ^a;", FORBIDDEN);
        Check.equal("the retreat stays behind an error", 0, kept.settler.endRetreats());
    }

    private static void ending() {
        Game g = dislodged();
        g.tell("b to d;");
        Check.equal("gone", 0, g.settler.endRetreats());
        Check.equal("phase()", 0, g.settler.phase());
        Check.equal("turn()", 2, g.settler.turn());
        Check.equal("units", "p A b\np A c\nq A d\n", g.units());
        Check.equal("no dislodged unit any more", -1, g.settler.area(1, 6));
        Check.equal("its order", 0, g.settler.order(3, 0));
        Check.equal("the settling is still told", 1, g.settler.result(1, 1));
        Check.fails("no dislodged unit", NoSuchElementException.class, () -> g.settler.mayRetreat(1, 4) ? 1 : 0);
        // A unit that retreated can be dislodged again, without the retreat that was told before.
        g.tell("b to d;");
        Check.equal("it holds", 0, g.settler.settle());
    }

    /** Two units that retreat to one area are both gone. */
    private static void sameGoal() {
        Game g = new Game("land a;land b;land c;land d;land e;land x;land y;border a b;border b c;border d e;border e x;"
                + "border b y;border e y;border b x;border a d;border c d;"
                + "power p;power q;army p a;army p c;army q b;army p d;army p x;army q e;");
        g.tell("a to b;c support a to b;d to e;x support d to e;");
        Check.equal("settle", 2, g.settler.settle());
        Check.equal("retreats", 2, g.tell("b to y;e to y;"));
        Check.equal("gone", 2, g.settler.endRetreats());
        Check.equal("units", "p A b\np A c\np A e\np A x\n", g.units());
        g.settler.undo();
        g.tell("e disband;");
        Check.equal("gone", 1, g.settler.endRetreats());
        Check.equal("one retreat", 1, g.settler.area(g.at("y"), 4));
    }

    private static void phases() {
        Game g = dislodged();
        Check.fails("settle in RETREATS", IllegalStateException.class, g.settler::settle);
        Check.fails("endBuilds in RETREATS", IllegalStateException.class, g.settler::endBuilds);
        g.settler.endRetreats();
        Check.fails("endRetreats in ORDERS", IllegalStateException.class, g.settler::endRetreats);
        Game builds = BuildsTest.building();
        Check.fails("endRetreats in BUILDS", IllegalStateException.class, builds.settler::endRetreats);
    }

    /** Behind an even turn centers change hands only when the retreats are over. */
    private static void centersBehindRetreats() {
        Game g = new Game("land a;land b center;land c;land d center;border a b;border b c;border b d;"
                + "power p;power q b;army p a;army p c;army q b;");
        g.settler.settle();
        g.tell("a to b;c support a to b;");
        g.settler.settle();
        Check.equal("phase()", 1, g.settler.phase());
        Check.equal("the owner before the retreats", 1, g.settler.area(1, 3));
        g.tell("b to d;");
        Check.equal("gone", 0, g.settler.endRetreats());
        Check.equal("the owner behind them", 0, g.settler.area(1, 3));
        Check.equal("the owner where it retreated to", 1, g.settler.area(3, 3));
        Check.equal("p must remove a unit", 2, g.settler.phase());
        Check.equal("turn()", 2, g.settler.turn());
    }
}
