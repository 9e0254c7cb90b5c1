/** Moves by sea where the other tests have direct ones; each method tests the sentence that stands above it. */
final class BySeaTest {
    private static final int FORBIDDEN = 4;

    public static void main(String[] args) {
        notCutFromTheGoalBySea();
        supportsOfCoastsAcrossTheSea();
        prevention();
        contested();
        dislodgedOnTheWay();
        dislodgedWithoutAPath();
        holdOfAMoverWithoutAPath();
        behindOneThatLeaves();
        dislodgingBySea();
        ownUnitBySea();
        ringBySea();
        reasons();
        foreseen();
        Check.end("BySeaTest");
    }

    private static Game game(String map, String orders) {
        Game g = new Game(map);
        g.tell(orders);
        return g;
    }

    private static void told(String what, Game g, String area, int... due) {
        for (int report = 0; report < due.length; report++) {
            Check.equal(what + ", result " + report + " of " + area, due[report], g.result(area, report));
        }
    }

    /** "no move with a path goes to its area that ... does not come from the goal": a move by sea may come from it. */
    private static void notCutFromTheGoalBySea() {
        // The fleet at a can go to b, the army at b to a by sea alone.
        String map = "coast a;coast b;coast c;coast d;sea s;border a b fleet;border c b;border a s;border b s;border d s;"
                + "power p;power q;fleet p a;army p c;army q b;fleet q s;";
        Game from = game(map, "c to b;a support c to b;b to a;s convoy b to a;");
        Check.equal("from the goal", 1, from.settler.settle());
        told("from the goal", from, "a", 3, 0, 1, 0, 0, 0);
        told("from the goal", from, "b", 2, 1, 1, 1, 2, 1);
        told("from the goal", from, "c", 1, 0, 2, 2, 0, 0);
        Game elsewhere = game(map + "army q d;", "c to b;a support c to b;d to a;s convoy d to a;");
        Check.equal("from elsewhere", 0, elsewhere.settler.settle());
        told("from elsewhere", elsewhere, "a", 4, 0, 1, 0, 0, 0);
        told("from elsewhere", elsewhere, "c", 2, 0, 1, 1, 2, 0);
        told("from elsewhere", elsewhere, "d", 2, 0, 1, 1, 2, 1);
    }

    /** "It is allowed if ... the unit can go to c", "to b": directly, not by sea. */
    private static void supportsOfCoastsAcrossTheSea() {
        Game g = new Game("coast a;coast b;coast c;sea s;border a s;border b s;border c s;border b c;border a c fleet;"
                + "power p;army p a;army p b;army p c;fleet p s;");
        g.refuses("a support ^b;", FORBIDDEN);
        g.refuses("a support c to ^b;", FORBIDDEN);
        g.refuses("a support ^c;", FORBIDDEN);
        g.refuses("a support b to ^c;", FORBIDDEN);
        Check.equal("the moves are allowed", 2, g.tell("a to b;a to c;"));
        Check.equal("so is a support of such a move", 1, g.tell("c support a to b;"));
        Check.equal("and supports by those who can go", 2, g.tell("s support a;s support b to a;"));
    }

    /** "A move prevents others with its strength, but with 0 if it has no path": two moves by sea to one goal. */
    private static void prevention() {
        String map = "coast a;coast b;coast g;sea s;sea t;border a s;border s g;border b t;border t g;"
                + "power p;power q;army p a;army q b;fleet p s;fleet q t;";
        Game both = game(map, "a to g;b to g;s convoy a to g;t convoy b to g;");
        Check.equal("both have a path", 0, both.settler.settle());
        told("both have a path", both, "a", 2, 0, 1, 1, 3, 1);
        told("both have a path", both, "b", 2, 0, 1, 1, 3, 1);
        Check.isTrue("contested", both.settler.isContested(2));
        Game one = game(map, "a to g;b to g;t convoy b to g;");
        Check.equal("one has a path", 1, one.settler.settle());
        told("one has a path", one, "a", 2, 0, 1, 0, 1, 0);
        told("one has a path", one, "b", 1, 0, 1, 1, 0, 1);
        Game stronger = game(map + "sea u;border u g;fleet p u;",
                "a to g;b to g;s convoy a to g;t convoy b to g;u support b to g;");
        Check.equal("one is supported", 1, stronger.settler.settle());
        told("one is supported", stronger, "a", 2, 0, 1, 1, 3, 1);
        told("one is supported", stronger, "b", 1, 0, 2, 2, 0, 1);
    }

    /** "An area is contested if a move with a path to it did not succeed": by sea, prevented by stronger ones. */
    private static void contested() {
        String map = "coast a;coast g;land h;land i;sea s;border a s;border s g;border g h;border h i;"
                + "power p;power q;army p a;army q h;fleet p s;";
        Game met = game(map, "a to g;h to g;s convoy a to g;");
        Check.equal("by sea against a direct one", 0, met.settler.settle());
        Check.isTrue("contested", met.settler.isContested(1));
        Game none = game(map, "a to g;h hold;");
        Check.equal("without a path", 0, none.settler.settle());
        Check.isFalse("not contested", none.settler.isContested(1));
        Game stays = game(map + "army q g;", "a to g;s convoy a to g;");
        Check.equal("against a unit", 0, stays.settler.settle());
        Check.isFalse("not contested with a unit", stays.settler.isContested(1));
        // The unit at g leaves, and two moves by sea alone are left that go there.
        Game two = game("coast a;coast b;coast g;land h;sea s;sea t;border a s;border s g;border b t;border t g;border g h;"
                + "power p;power q;army p a;army p b;army q g;fleet p s;fleet p t;",
                "a to g;b to g;s convoy a to g;t convoy b to g;g to h;");
        Check.equal("the unit left", 1, two.settler.settle());
        Check.isTrue("contested by moves by sea alone", two.settler.isContested(2));
        Check.isFalse("its goal is not", two.settler.isContested(3));
    }

    /** A move has its path whether or not its own unit is dislodged: it attacks, prevents and cuts. */
    private static void dislodgedOnTheWay() {
        String map = "coast a;coast b;land c;land d;land e;land f;sea s;border a s;border b s;border c a;border d a;"
                + "border b e;border f e;border c d;"
                + "power p;power q;army q a;army p b;army p c;army p d;army p e;army q f;fleet q s;";
        Game g = game(map, "a to b;s convoy a to b;c to a;d support c to a;b support e;f to e;");
        Check.equal("settle", 1, g.settler.settle());
        told("dislodged", g, "a", 2, 1, 1, 1, 2, 1);
        told("its support is cut", g, "b", 4, 0, 1, 0, 0, 0);
        told("its hold", g, "e", 5, 0, 1, 0, 0, 0);
        told("the attacker", g, "c", 1, 0, 2, 2, 0, 0);
        // It prevents a move to the empty coast, which is contested then.
        Game empty = game(map.replace("army p b;", ""), "a to b;s convoy a to b;c to a;d support c to a;e to b;");
        Check.equal("settle", 1, empty.settler.settle());
        told("dislodged", empty, "a", 2, 1, 1, 1, 3, 1);
        told("prevented", empty, "e", 2, 0, 1, 1, 3, 0);
        Check.isTrue("contested", empty.settler.isContested(1));
        Check.isFalse("it may not retreat there", empty.settler.mayRetreat(0, 1));
    }

    /** "of a move that did not succeed the reason: 1 it had no path": also of a dislodged one. */
    private static void dislodgedWithoutAPath() {
        Game g = game("coast a;coast b;land c;land d;border c a;border d a;power p;power q;army q a;army p c;army p d;",
                "a to b;c to a;d support c to a;");
        Check.equal("settle", 1, g.settler.settle());
        told("dislodged", g, "a", 2, 1, 1, 0, 1, 0);
    }

    /** "if its unit has a move, 0 if that succeeds, and 1 otherwise": also if it has no path, whoever supports it. */
    private static void holdOfAMoverWithoutAPath() {
        String map = "coast a;coast b;land c;land d;sea s;border c a;border d a;border a s;border b s;"
                + "power p;power q;army q a;army p c;army p d;fleet q s;";
        Game move = game(map, "a to b;s support a to b;c to a;d support c to a;");
        Check.equal("its move is supported", 1, move.settler.settle());
        told("its move is supported", move, "a", 2, 1, 2, 0, 1, 0);
        told("its move is supported", move, "s", 3, 0, 1, 0, 0, 0);
        Game stay = game(map, "a to b;s support a;c to a;d support c to a;");
        Check.equal("supported as if it stayed", 1, stay.settler.settle());
        told("supported as if it stayed", stay, "a", 2, 1, 1, 0, 1, 0);
        told("supported as if it stayed", stay, "s", 4, 0, 1, 0, 0, 0);
        Game hold = game(map, "s support a;c to a;d support c to a;");
        Check.equal("it stays", 0, hold.settler.settle());
        told("it stays", hold, "a", 5, 0, 2, 0, 0, 0);
    }

    /** "if it has a move that succeeds and is not opposed to this one, the attack is the strength": one by sea. */
    private static void behindOneThatLeaves() {
        String map = "coast a;coast b;land c;land d;sea s;border c a;border d a;border a s;border b s;"
                + "power p;power q;army p a;fleet p s;";
        Game own = game(map + "army p c;", "a to b;s convoy a to b;c to a;");
        Check.equal("behind its own unit", 2, own.settler.settle());
        told("behind its own unit", own, "c", 1, 0, 1, 1, 0, 0);
        Game other = game(map + "army q c;army p d;", "a to b;s convoy a to b;c to a;d support c to a;");
        Check.equal("behind another unit", 2, other.settler.settle());
        told("supports of the power that leaves count", other, "c", 1, 0, 2, 2, 0, 0);
        Game stays = game(map + "army q c;army p d;", "a to b;c to a;d support c to a;");
        Check.equal("behind one that stays", 0, stays.settler.settle());
        told("they do not if it stays", stays, "c", 2, 0, 2, 1, 2, 0);
        // It leaves by sea for the coast that the other one leaves directly.
        Game back = game("coast a;coast b;sea s;border a b fleet;border a s;border b s;power p;power q;army p a;fleet p b;"
                + "fleet q s;", "a to b;b to a;s convoy a to b;");
        Check.equal("they change places", 2, back.settler.settle());
        told("by sea", back, "a", 1, 0, 1, 1, 0, 1);
        told("directly", back, "b", 1, 0, 1, 1, 0, 0);
    }

    /** "from which no direct move came that dislodged it": a move by sea dislodges, and bars no way. */
    private static void dislodgingBySea() {
        String map = "coast a;coast b;coast c;sea s;border a s;border b s;border a b fleet;border c b;"
                + "power p;power q;army p a;army p c;fleet p s;fleet q b;";
        Game g = game(map, "a to b;s convoy a to b;c support a to b;");
        Check.equal("settle", 1, g.settler.settle());
        told("by sea", g, "a", 1, 0, 2, 2, 0, 1);
        told("dislodged", g, "b", 5, 1, 1, 0, 0, 0);
        Check.isTrue("back to where the move came from", g.settler.mayRetreat(1, 0));
        Check.isFalse("not to the fleet", g.settler.mayRetreat(1, 3));
        Check.equal("told", 1, g.tell("b to a;"));
        Check.equal("gone", 0, g.settler.endRetreats());
        Check.equal("units", "q F a\np A b\np A c\np F s\n", g.units());
    }

    /** "if u is of the same power, it is 0": by sea as well. */
    private static void ownUnitBySea() {
        String map = "coast a;coast b;land c;sea s;border a s;border b s;border c b;power p;power q;army p a;army p b;"
                + "army q c;fleet q s;";
        Game g = game(map, "a to b;s convoy a to b;c support a to b;");
        Check.equal("settle", 0, g.settler.settle());
        told("its own unit", g, "a", 2, 0, 2, 0, 2, 1);
        told("its own unit", g, "b", 5, 0, 1, 0, 0, 0);
        // Its attack is 0, but it prevents with its strength.
        Game also = game(map + "land d;land e;border d b;border e b;army q d;army p e;",
                "a to b;s convoy a to b;c support a to b;d to b;");
        Check.equal("it prevents another one", 0, also.settler.settle());
        told("it prevents another one", also, "a", 2, 0, 2, 0, 2, 1);
        told("it prevents another one", also, "d", 2, 0, 1, 1, 2, 0);
    }

    /** A ring of moves, one of them by sea. */
    private static void ringBySea() {
        String map = "coast a;coast b;land c;sea s;border a s;border b s;border b c;border c a;power p;power q;"
                + "army p a;army q b;army p c;fleet q s;";
        Game ring = game(map, "a to b;b to c;c to a;s convoy a to b;");
        Check.equal("all go on", 3, ring.settler.settle());
        Check.equal("or none", 2, ring.settler.outcomes());
        told("by sea", ring, "a", 1, 0, 1, 1, 0, 1);
        Check.equal("units", "p A a\np A b\nq A c\nq F s\n", ring.units());
        Game none = game(map, "a to b;b to c;c to a;");
        Check.equal("none goes on", 0, none.settler.settle());
        Check.equal("one outcome", 1, none.settler.outcomes());
        told("without a path", none, "a", 2, 0, 1, 0, 1, 0);
        told("behind it", none, "c", 2, 0, 1, 0, 2, 0);
        told("behind that", none, "b", 2, 0, 1, 1, 2, 0);
    }

    /** "4 of a move that did not succeed the reason": each of them by sea. */
    private static void reasons() {
        String map = "coast a;coast b;land c;sea s;border a s;border b s;border c b;power p;power q;army p a;fleet p s;";
        Game path = game(map + "army q b;army q c;", "a to b;c to b;");
        path.settler.settle();
        told("no path", path, "a", 2, 0, 1, 0, 1, 0);
        Game hold = game(map + "army q b;army q c;", "a to b;s convoy a to b;c support b;");
        hold.settler.settle();
        told("the hold", hold, "a", 2, 0, 1, 1, 2, 1);
        Game both = game(map + "army q b;army q c;", "a to b;s convoy a to b;c to b;");
        both.settler.settle();
        told("the hold and another move", both, "a", 2, 0, 1, 1, 2, 1);
        Game other = game(map + "army q c;", "a to b;s convoy a to b;c to b;");
        other.settler.settle();
        told("another move", other, "a", 2, 0, 1, 1, 3, 1);
    }

    /** foreseeMove: "if it had a move to an area, all others as they are": by sea with the convoy that was told. */
    private static void foreseen() {
        Game g = new Game("coast a;coast b;coast c;sea s;border a s;border b s;border c s;power p;army p a;fleet p s;");
        Check.equal("no convoy", 0, g.settler.foreseeMove(0, 1));
        g.tell("s convoy a to b;");
        Check.equal("the coast of the convoy", 1, g.settler.foreseeMove(0, 1));
        Check.equal("another coast", 0, g.settler.foreseeMove(0, 2));
        Check.equal("its order stays", 0, g.settler.order(0, 0));
        Check.equal("no move by sea now", 0, g.settler.foresee(0, 5));
        g.tell("a to b;");
        Check.equal("a move by sea now", 1, g.settler.foresee(0, 5));
        Check.equal("the fleet moves instead", 1, g.settler.foreseeMove(3, 2));
        Check.equal("the move by sea is still foreseen", 1, g.settler.foresee(0, 0));
    }
}
