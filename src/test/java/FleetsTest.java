/** Fleets where the other tests have armies; each method tests the sentence that stands above it. */
final class FleetsTest {
    private static final int FORBIDDEN = 4;
    // Four seas, each of which borders each other one.
    private static final String SEAS = "sea a;sea b;sea c;sea d;border a b;border a c;border a d;border b c;border b d;"
            + "border c d;power p;power q;power r;";

    public static void main(String[] args) {
        supportsAreCut();
        ownUnit();
        opposed();
        ring();
        bounceAndContest();
        dislodged();
        mixedKinds();
        supportsAtCoasts();
        centers();
        removals();
        takenAway();
        builds();
        counts();
        Check.end("FleetsTest");
    }

    private static Game game(String map, String orders) {
        Game g = new Game(map);
        g.tell(orders);
        return g;
    }

    private static void told(String what, Game g, String area, int... due) {
        for (int report = 0; report < due.length; report++) {
            Check.equal(what + ", result " + report + " of " + area, due[report], g.result(area, report));
        }
    }

    /** "A support is given if ... no move with a path goes to its area that is of another power" */
    private static void supportsAreCut() {
        String units = "fleet p a;fleet p b;fleet q c;";
        for (String power : new String[] {"q", "r"}) {
            Game cut = game(SEAS + units + "fleet " + power + " d;", "a to c;b support a to c;d to b;");
            Check.equal("cut by " + power, 0, cut.settler.settle());
            told("cut by " + power, cut, "b", 4, 0, 1, 0, 0, 0);
            told("cut by " + power, cut, "a", 2, 0, 1, 1, 2, 0);
        }
        Game own = game(SEAS + units + "fleet p d;", "a to c;b support a to c;d to b;");
        Check.equal("its own fleet", 1, own.settler.settle());
        told("its own fleet", own, "b", 3, 0, 1, 0, 0, 0);
        Game goal = game(SEAS + units, "a to c;b support a to c;c to b;");
        Check.equal("from the goal", 1, goal.settler.settle());
        told("from the goal", goal, "b", 3, 0, 1, 0, 0, 0);
        told("from the goal", goal, "c", 2, 1, 1, 1, 2, 0);
        Game hold = game(SEAS + units + "fleet q d;", "b support a;c to a;d support c to a;");
        Check.equal("a fleet that stays", 0, hold.settler.settle());
        told("a fleet that stays", hold, "a", 5, 0, 2, 0, 0, 0);
        Game less = game(SEAS + units + "fleet q d;", "b support a;c to a;d to b;");
        Check.equal("cut for a fleet that stays", 0, less.settler.settle());
        told("cut for a fleet that stays", less, "a", 5, 0, 1, 0, 0, 0);
    }

    /** "if u is of the same power, it is 0", and supports of its power do not count. */
    private static void ownUnit() {
        Game own = game(SEAS + "fleet p a;fleet p b;fleet q c;", "a to b;c support a to b;");
        Check.equal("to its own fleet", 0, own.settler.settle());
        told("to its own fleet", own, "a", 2, 0, 2, 0, 2, 0);
        Game other = game(SEAS + "fleet p a;fleet q b;fleet q c;", "a to b;c support a to b;");
        Check.equal("supported by the power of the fleet", 0, other.settler.settle());
        told("supported by the power of the fleet", other, "a", 2, 0, 2, 1, 2, 0);
        Game third = game(SEAS + "fleet p a;fleet q b;fleet r c;", "a to b;c support a to b;");
        Check.equal("supported by a third power", 1, third.settler.settle());
        told("supported by a third power", third, "b", 5, 1, 1, 0, 0, 0);
        Game leaves = game(SEAS + "fleet p a;fleet p b;", "a to b;b to c;");
        Check.equal("behind its own fleet", 2, leaves.settler.settle());
    }

    /** "Two moves are opposed if each goes to the area of the other one and both are direct." */
    private static void opposed() {
        Game equal = game(SEAS + "fleet p a;fleet q b;", "a to b;b to a;");
        Check.equal("equal", 0, equal.settler.settle());
        Check.equal("outcomes", 1, equal.settler.outcomes());
        told("equal", equal, "a", 2, 0, 1, 1, 2, 0);
        Game stronger = game(SEAS + "fleet p a;fleet q b;fleet p c;", "a to b;b to a;c support a to b;");
        Check.equal("stronger", 1, stronger.settler.settle());
        told("stronger", stronger, "a", 1, 0, 2, 2, 0, 0);
        told("stronger", stronger, "b", 2, 1, 1, 1, 2, 0);
        Check.isTrue("contested where the winner was", stronger.settler.isContested(0));
        Game beaten = game(SEAS + "fleet p a;fleet q b;fleet p c;fleet r d;", "a to b;b to a;c support a to b;d to a;");
        Check.equal("a beaten one does not prevent", 2, beaten.settler.settle());
        told("a beaten one does not prevent", beaten, "d", 1, 0, 1, 1, 0, 0);
    }

    /** "the one with most moves that succeed counts" */
    private static void ring() {
        Game g = game(SEAS + "fleet p a;fleet q b;fleet p c;", "a to b;b to c;c to a;");
        Check.equal("a ring", 3, g.settler.settle());
        Check.equal("outcomes", 2, g.settler.outcomes());
        Check.equal("units", "p F a\np F b\nq F c\n", g.units());
        Game armies = game("coast a;coast b;coast c;border a b;border b c;border c a;power p;fleet p a;army p b;fleet p c;",
                "a to b;b to c;c to a;");
        Check.equal("of both kinds", 3, armies.settler.settle());
        Check.equal("units", "p F a\np F b\np A c\n", armies.units());
    }

    /** "and greater than that with which each other move to the same goal prevents" */
    private static void bounceAndContest() {
        Game g = game(SEAS + "fleet p a;fleet p b;", "a to c;b to c;");
        Check.equal("two fleets of one power", 0, g.settler.settle());
        told("two fleets", g, "a", 2, 0, 1, 1, 3, 0);
        told("two fleets", g, "b", 2, 0, 1, 1, 3, 0);
        Check.isTrue("contested", g.settler.isContested(2));
        Game mixed = game("coast a;coast b;sea s;border a b;border s b;power p;power q;army p a;fleet q s;", "a to b;s to b;");
        Check.equal("a fleet and an army", 0, mixed.settler.settle());
        Check.isTrue("contested", mixed.settler.isContested(1));
    }

    /** "dislodged ones stand aside": reports on a dislodged fleet and a dislodged army. */
    private static void dislodged() {
        Game fleet = game("coast a;coast b;coast c;sea s;border a b;border b c;border b s;border a c;power p;power q;power r;"
                + "army p a;army p c;fleet r b;", "a to b;c support a to b;");
        Check.equal("settle", 1, fleet.settler.settle());
        int[] due = {1, 0, -1, -1, 0, 0, 2, 1};
        for (int what = 0; what < due.length; what++) {
            Check.equal("area b, " + what, due[what], fleet.settler.area(1, what));
        }
        Check.isTrue("to the sea", fleet.settler.mayRetreat(1, 3));
        Check.equal("told", 1, fleet.tell("b to s;"));
        Check.equal("gone", 0, fleet.settler.endRetreats());
        Check.equal("units", "p A b\np A c\nr F s\n", fleet.units());
        Game army = game("coast a;coast b;coast c;sea s;border a b;border b c;border b s;border a c;power p;power q;power r;"
                + "fleet p a;fleet p c;army r b;", "a to b;c support a to b;");
        Check.equal("settle", 1, army.settler.settle());
        int[] other = {1, 0, -1, -1, 0, 1, 2, 0};
        for (int what = 0; what < other.length; what++) {
            Check.equal("area b, " + what, other[what], army.settler.area(1, what));
        }
        Check.isFalse("an army not to the sea", army.settler.mayRetreat(1, 3));
        army.refuses("b to ^s;", FORBIDDEN);
        Check.equal("gone", 1, army.settler.endRetreats());
    }

    /** Fleets and armies support, attack and cut each other at coasts. */
    private static void mixedKinds() {
        String map = "coast a;coast b;coast c;coast d;border a b;border c b;border d c;border d b;power p;power q;";
        for (int kinds = 0; kinds < 16; kinds++) {
            String[] kind = new String[4];
            for (int i = 0; i < 4; i++) {
                kind[i] = (kinds >> i & 1) == 0 ? "army" : "fleet";
            }
            String units = kind[0] + " p a;" + kind[1] + " q b;" + kind[2] + " p c;" + kind[3] + " q d;";
            Game move = game(map + units, "a to b;c support a to b;");
            Check.equal("a supported move, " + units, 1, move.settler.settle());
            told(units, move, "c", 3, 0, 1, 0, 0, 0);
            Game held = game(map + units, "a to b;c support a to b;d support b;");
            Check.equal("a supported unit, " + units, 0, held.settler.settle());
            told(units, held, "b", 5, 0, 2, 0, 0, 0);
            Game cut = game(map + units, "a to b;c support a to b;d to c;");
            Check.equal("a cut support, " + units, 0, cut.settler.settle());
            told(units, cut, "c", 4, 0, 1, 0, 0, 0);
            Game goal = game(map + units, "a to b;c support a to b;b to c;");
            Check.equal("not cut from the goal, " + units, 1, goal.settler.settle());
            told(units, goal, "c", 3, 0, 1, 0, 0, 0);
            Check.equal("reach of p to b, " + units, 2, goal.settler.reach(2, 1, false) + goal.settler.reach(2, 0, false));
        }
    }

    /** "the unit can go to c", "to b": by the borders for its kind, whatever kind the other unit is of. */
    private static void supportsAtCoasts() {
        Game g = new Game("coast a;coast b;coast c;sea s;border a b army;border b c fleet;border a c;border b s;"
                + "power p;army p a;fleet p b;fleet p c;fleet p s;");
        g.refuses("b support ^a;", FORBIDDEN);
        g.refuses("b support c to ^a;", FORBIDDEN);
        g.refuses("b to ^a;", FORBIDDEN);
        Check.equal("the army can go", 2, g.tell("a support b;a support s to b;"));
        Check.equal("the fleets can go", 4, g.tell("b support c;b support a to c;c support b;c support a to b;"));
        g.refuses("s support ^c;", FORBIDDEN);
    }

    /** "each center with a unit belongs to the power of that unit": of a fleet as of an army. */
    private static void centers() {
        Game g = new Game("coast a center;sea b;coast c;border a b;border a c;power p a;power q;fleet q b;");
        g.tell("b to a;");
        Check.equal("settle", 1, g.settler.settle());
        Check.equal("behind turn 1", 0, g.settler.area(0, 3));
        g.settler.settle();
        Check.equal("behind turn 2", 1, g.settler.area(0, 3));
        Check.equal("its home is p's", 0, g.settler.area(0, 2));
        Check.equal("p has no center", 0, g.settler.power(0, 0));
        Check.equal("q has one", 1, g.settler.power(1, 0));
        Check.equal("nobody builds or removes", 0, g.settler.phase());
    }

    /** "\"remove\" takes away a unit of a power that must remove at this moment": a fleet, an army. */
    private static void removals() {
        String map = "coast a center;sea b;coast c;power p a;fleet p b;army p c;";
        for (String area : new String[] {"b", "c"}) {
            Game g = new Game(map);
            g.settler.settle();
            g.settler.settle();
            Check.equal("phase", 2, g.settler.phase());
            Check.equal("must remove", -1, g.settler.power(0, 3));
            Check.equal("told", 1, g.tell("remove " + area + ";"));
            Check.equal("units", area.equals("b") ? "p A c\n" : "p F b\n", g.units());
            Check.equal("need not remove", 0, g.settler.power(0, 3));
            g.refuses("remove ^" + (area.equals("b") ? "c" : "b") + ";", FORBIDDEN);
            Check.equal("taken away", 0, g.settler.endBuilds());
        }
        Game fleets = new Game("sea a;sea b;power p;fleet p a;fleet p b;");
        fleets.settler.settle();
        fleets.settler.settle();
        Check.equal("fleets alone", 2, fleets.settler.phase());
        Check.equal("told", 2, fleets.tell("remove b;remove a;"));
        Check.equal("units", "", fleets.units());
    }

    /** "units are taken away, those at the areas with the greatest numbers first": whatever kind they are of. */
    private static void takenAway() {
        for (int kinds = 0; kinds < 8; kinds++) {
            StringBuilder map = new StringBuilder("coast a;coast b;coast c;coast d center;power p d;");
            for (int i = 0; i < 3; i++) {
                map.append((kinds >> i & 1) == 0 ? "army p " : "fleet p ").append((char) ('a' + i)).append(';');
            }
            Game g = new Game(map.toString());
            g.settler.settle();
            g.settler.settle();
            Check.equal("phase with kinds " + kinds, 2, g.settler.phase());
            Check.equal("taken away with kinds " + kinds, 2, g.settler.endBuilds());
            Check.equal("left with kinds " + kinds, (kinds & 1) == 0 ? "p A a\n" : "p F a\n", g.units());
        }
    }

    /** "\"build\" puts a unit of the power whose home it is there": a fleet counts as an army does. */
    private static void builds() {
        Game g = new Game("coast a center;coast b center;coast c;power p a b;fleet p c;");
        g.settler.settle();
        g.settler.settle();
        Check.equal("one too few", 1, g.settler.power(0, 3));
        Check.equal("told", 1, g.tell("build b fleet;"));
        Check.equal("none too few", 0, g.settler.power(0, 3));
        g.refuses("build ^a army;", FORBIDDEN);
        Check.equal("power", 0, g.settler.area(1, 4));
        Check.equal("kind", 1, g.settler.area(1, 5));
        Check.equal("taken away", 0, g.settler.endBuilds());
        Check.equal("units", "p F b\np F c\n", g.units());
        Check.equal("orders", "b hold;\nc hold;\n", g.orders());
    }

    /** "1 its units": fleets and armies, of twelve units all. */
    private static void counts() {
        StringBuilder map = new StringBuilder("power p;power q;");
        for (int i = 0; i < 12; i++) {
            char name = (char) ('a' + i);
            map.insert(0, "coast " + name + ";");
            map.append(i % 3 == 0 ? "army " : "fleet ").append(i % 2 == 0 ? "p " : "q ").append(name).append(';');
        }
        Game g = new Game();
        Check.equal("units", 12, g.load(map.toString()));
        Check.equal("p's", 6, g.settler.power(0, 1));
        Check.equal("q's", 6, g.settler.power(1, 1));
        g.refusesMap("coast m;" + map + "^fleet p m;", 5);
    }
}
