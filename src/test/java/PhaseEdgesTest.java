import java.util.NoSuchElementException;

/**
 * The edges of sections 4, 5 and 7 and of promises 14, 15 and 21 to 25: each method tests the sentence of the
 * document that stands above it.
 */
final class PhaseEdgesTest {
    private static final int SYNTAX = 1;
    private static final int DUPLICATE = 3;
    private static final int FORBIDDEN = 4;

    private static final Class<NoSuchElementException> NONE = NoSuchElementException.class;
    private static final Class<IllegalStateException> STATE = IllegalStateException.class;

    public static void main(String[] args) {
        standAside();
        onlyWithDislodgedUnits();
        retreatsToEveryFreeArea();
        noRetreatBySea();
        leftAreas();
        uncontestedWithoutAPath();
        notWhereItCameFrom();
        nowhereToGo();
        firstAndLastArea();
        twoAndThreeToOneArea();
        evenTurnsOnly();
        centersOfUnits();
        somewhereToBuild();
        mustRemoveToo();
        builtAtThisMoment();
        homesAlone();
        kindsBuilt();
        greatestNumbersFirst();
        takenAwayByThisCall();
        orderOfPhases();
        latestSix();
        nothingToUndo();
        everythingAsItWas();
        undoneInEachPhase();
        settledAnew();
        loadedInEachPhase();
        Check.end("PhaseEdgesTest");
    }

    private static String areas(String before, int first, int count, String behind) {
        StringBuilder text = new StringBuilder();
        for (int i = first; i < first + count; i++) {
            text.append(before).append((char) ('a' + i)).append(behind);
        }
        return text.toString();
    }

    private static Game settled(String map, String orders, int moves) {
        Game g = new Game(map);
        g.tell(orders);
        Check.equal("settle of " + orders, moves, g.settler.settle());
        return g;
    }

    // ---- retreats

    /** "dislodged ones stand aside, at the area where they were" */
    private static void standAside() {
        Game g = RetreatsTest.dislodged();
        int[] due = {0, 0, -1, -1, 0, 0, 1, 0};
        for (int what = 0; what < 8; what++) {
            Check.equal("area b, " + what, due[what], g.settler.area(1, what));
        }
        for (int a = 0; a < 6; a++) {
            Check.equal("aside at " + a, a == 1 ? 1 : -1, g.settler.area(a, 6));
            Check.equal("its kind at " + a, a == 1 ? 0 : -1, g.settler.area(a, 7));
        }
        Game fleet = settled("sea a;sea b;sea c;border a b;border b c;power p;power q;fleet q a;fleet q c;fleet p b;",
                "a to b;c support a to b;", 1);
        Check.equal("a fleet aside", 1, fleet.settler.area(1, 7));
        Check.equal("its power", 0, fleet.settler.area(1, 6));
    }

    /** "If there are dislodged units, the phase is RETREATS (1)." */
    private static void onlyWithDislodgedUnits() {
        Game none = settled("land a;land b;border a b;power p;power q;army p a;army q b;", "a to b;", 0);
        Check.equal("phase without one", 0, none.settler.phase());
        Check.equal("turn without one", 2, none.settler.turn());
        Check.fails("mayRetreat without one", NONE, () -> none.settler.mayRetreat(0, 1) ? 1 : 0);
        Game one = RetreatsTest.dislodged();
        Check.equal("phase with one", 1, one.settler.phase());
        Check.equal("turn with one", 1, one.settler.turn());
        for (int area : new int[] {0, 2, 3, 4, 5}) {
            Check.fails("mayRetreat from " + area, NONE, () -> one.settler.mayRetreat(area, 3) ? 1 : 0);
        }
    }

    // The dislodged unit is at h, which borders all areas from a to g; x and y are the attackers.
    private static final String HUB = areas("coast ", 0, 7, ";") + "coast h;coast x;coast y;" + areas("border h ", 0, 7, ";")
            + "border h x;border h y;power p;power q;army p x;army p y;";

    /** "It may retreat to an area to which it can go" */
    private static void retreatsToEveryFreeArea() {
        Game g = settled(HUB + "army q h;", "x to h;y support x to h;", 1);
        for (int to = 0; to < 10; to++) {
            Check.equal("retreat to " + to, to < 7 ? 1 : 0, g.settler.mayRetreat(7, to) ? 1 : 0);
        }
        for (char c = 'a'; c <= 'g'; c++) {
            Check.equal("told", 1, g.tell("h to " + c + ";"));
        }
        for (char c : new char[] {'h', 'x', 'y'}) {
            g.refuses("h to ^" + c + ";", FORBIDDEN);
        }
        Check.equal("gone", 0, g.settler.endRetreats());
        Check.equal("the last one told counts", 1, g.settler.area(6, 4));
    }

    /** "an area to which it can go": with an army no coast across the sea, with a fleet no inland area. */
    private static void noRetreatBySea() {
        Game g = settled("coast a;coast b;coast c;sea s;land d;border a b;border b c;border s b;border s c;border d b;"
                + "coast e;border s e;power p;power q;army p a;army q b;army p c;fleet q s;",
                "a to b;c support a to b;s hold;", 1);
        Check.isFalse("a coast across the sea", g.settler.mayRetreat(1, 5));
        Check.isTrue("an inland area", g.settler.mayRetreat(1, 4));
        Check.isFalse("a sea", g.settler.mayRetreat(1, 3));
        g.refuses("b to ^e;", FORBIDDEN);
        Game fleet = settled(HUB.replace("border h a;", "border h a army;").replace("border h b;", "border h b fleet;") + "fleet q h;",
                "x to h;y support x to h;", 1);
        Check.isFalse("a border for armies", fleet.settler.mayRetreat(7, 0));
        Check.isTrue("a border for fleets", fleet.settler.mayRetreat(7, 1));
        Game army = settled(HUB.replace("border h a;", "border h a army;").replace("border h b;", "border h b fleet;") + "army q h;",
                "x to h;y support x to h;", 1);
        Check.isTrue("a border for armies", army.settler.mayRetreat(7, 0));
        Check.isFalse("a border for fleets", army.settler.mayRetreat(7, 1));
    }

    /** "in which there is no unit": units are where their moves have led. */
    private static void leftAreas() {
        String map = HUB + "army q h;army q a;army q b;border a c;border b d;";
        Game g = settled(map, "x to h;y support x to h;a to c;", 2);
        Check.isTrue("an area that a unit left", g.settler.mayRetreat(7, 0));
        Check.isFalse("an area where a unit stays", g.settler.mayRetreat(7, 1));
        Check.isFalse("an area where a unit came", g.settler.mayRetreat(7, 2));
        Check.isTrue("an area where nobody is", g.settler.mayRetreat(7, 3));
        g.refuses("h to ^b;", FORBIDDEN);
        g.refuses("h to ^c;", FORBIDDEN);
        Check.equal("told", 1, g.tell("h to a;"));
    }

    /** "that is not contested": a move without a path contests nothing. */
    private static void uncontestedWithoutAPath() {
        String map = HUB + "army q h;army q a;army q b;border a c;border b c;border a d;";
        Game g = settled(map, "x to h;y support x to h;a to c;b to c;", 1);
        Check.isFalse("two moves met", g.settler.mayRetreat(7, 2));
        g.refuses("h to ^c;", FORBIDDEN);
        Game path = settled(map, "x to h;y support x to h;a to g;b to g;", 1);
        Check.isFalse("no moves by sea have met", path.settler.isContested(6));
        Check.isTrue("no path", path.settler.mayRetreat(7, 6));
        Check.isTrue("nobody went there", path.settler.mayRetreat(7, 2));
    }

    /** "and from which no direct move came that dislodged it": where others came from it may go. */
    private static void notWhereItCameFrom() {
        Game g = settled(HUB + "army q h;", "x to h;y support x to h;", 1);
        Check.isFalse("where the attacker came from", g.settler.mayRetreat(7, 8));
        g.refuses("h to ^x;", FORBIDDEN);
        // Dislodged again in the next turn, it may go where the first attacker came from.
        Game again = settled("land a;land b;land c;land d;land e;border a b;border b c;border c d;border a c;border b e;border e c;"
                + "power p;power q;army p a;army p e;army q b;", "a to b;e support a to b;", 1);
        again.tell("b to c;");
        again.settler.endRetreats();
        again.tell("b to c;e support b to c;");
        Check.equal("dislodged again", 1, again.settler.settle());
        Check.isTrue("where the first attacker came from", again.settler.mayRetreat(2, 0));
        Check.isFalse("where the second one came from", again.settler.mayRetreat(2, 1));
        Check.isTrue("another area", again.settler.mayRetreat(2, 3));
        Check.fails("nobody is dislodged at b now", NONE, () -> again.settler.mayRetreat(1, 0) ? 1 : 0);
    }

    /** "all others are gone": one that can go nowhere, and one that was told nothing. */
    private static void nowhereToGo() {
        Game g = settled("land a;land b;land c;border a b;border b c;power p;power q;army p a;army p c;army q b;",
                "a to b;c support a to b;", 1);
        for (int to = 0; to < 3; to++) {
            Check.isFalse("to " + to, g.settler.mayRetreat(1, to));
        }
        Check.equal("nothing told", 0, g.tell(""));
        Check.equal("gone", 1, g.settler.endRetreats());
        Check.equal("units", "p A b\np A c\n", g.units());
        Game told = RetreatsTest.dislodged();
        Check.equal("disband", 1, told.tell("b disband;"));
        Check.equal("gone", 1, told.settler.endRetreats());
        Game nothing = RetreatsTest.dislodged();
        Check.equal("gone without a word", 1, nothing.settler.endRetreats());
    }

    /** Units at the first and the last of sixteen areas are dislodged and go to each other's end. */
    private static void firstAndLastArea() {
        String map = areas("land ", 0, 16, ";") + "border a b;border a c;border a o;border p n;border p m;border p b;"
                + "power p;power q;army p b;army p c;army q a;army p n;army p m;army q p;";
        String orders = "b to a;c support b to a;n to p;m support n to p;";
        Game g = settled(map, orders, 2);
        Check.isTrue("from the first area", g.settler.mayRetreat(0, 14));
        Check.isTrue("from the last area to one that was left", g.settler.mayRetreat(15, 1));
        Check.isFalse("from the first area to where its attacker came from", g.settler.mayRetreat(0, 1));
        Check.isFalse("from the last area to where its attacker came from", g.settler.mayRetreat(15, 13));
        Check.equal("told", 2, g.tell("a to o;p to b;"));
        Check.equal("gone", 0, g.settler.endRetreats());
        Check.equal("units", "p A a\nq A b\np A c\np A m\nq A o\np A p\n", g.units());
        g.settler.undo();
        g.tell("a disband;");
        Check.equal("one gone", 1, g.settler.endRetreats());
        Check.equal("at the first area", -1, g.settler.area(0, 6));
        Game to = settled("land a;land b;land c;land d;border b a;border b c;border b d;power p;power q;army p c;army p d;army q b;",
                "c to b;d support c to b;", 1);
        to.tell("b to a;");
        Check.equal("to the first area", 0, to.settler.endRetreats());
        Check.equal("who is there", 1, to.settler.area(0, 4));
        Game last = settled(areas("land ", 0, 16, ";") + "border p o;border o n;border o m;power p;power q;army p n;army p m;army q o;",
                "n to o;m support n to o;", 1);
        last.tell("o to p;");
        Check.equal("to the last area", 0, last.settler.endRetreats());
        Check.equal("who is there", 1, last.settler.area(15, 4));
    }

    // Three units of q at a, b and c are dislodged by p; each may go to z, a and b also to y.
    private static final String THREE = "land a;land b;land c;land d;land e;land f;land g;land h;land i;land y;land z;"
            + "border d a;border e a;border f b;border g b;border h c;border i c;border a z;border b z;border c z;"
            + "border a y;border b y;power p;power q;army q a;army q b;army q c;" + areas("army p ", 3, 6, ";");

    /** "has a retreat to an area to which no other one has a retreat goes there; all others are gone" */
    private static void twoAndThreeToOneArea() {
        String orders = "d to a;e support d to a;f to b;g support f to b;h to c;i support h to c;";
        String[] retreats = {"a to z;b to z;c to z;", "a to z;b to z;", "a to z;b to y;c to z;", "a to z;b to y;",
            "a to z;b to z;a to y;", "a to z;b to z;b disband;", "c to z;", "a to y;b to y;c to z;", "a disband;b disband;c disband;"};
        int[] gone = {3, 3, 2, 1, 1, 2, 2, 2, 3};
        for (int i = 0; i < retreats.length; i++) {
            Game g = settled(THREE, orders, 3);
            g.tell(retreats[i]);
            Check.equal("gone of " + retreats[i], gone[i], g.settler.endRetreats());
            Check.equal("left of " + retreats[i], 3 - gone[i], g.settler.power(1, 1));
            Check.equal("phase behind " + retreats[i], 0, g.settler.phase());
        }
    }

    // ---- builds

    /** "Behind each turn with an even number": two of them, and none behind the odd ones. */
    private static void evenTurnsOnly() {
        Game g = new Game("land a center;land b center;land c;border a b;border b c;power p a;power q;army p a;army q c;");
        for (int turn = 1; turn <= 9; turn++) {
            Check.equal("turn", turn, g.settler.turn());
            Check.equal("owner of b in turn " + turn, turn > 2 ? 0 : -1, g.settler.area(1, 3));
            if (turn == 1) {
                g.tell("a to b;");
            }
            g.settler.settle();
            Check.equal("phase behind turn " + turn, turn % 2 == 0 ? 2 : 0, g.settler.phase());
            if (turn == 2) {
                // q need not stay.
                Check.equal("told", 1, g.tell("remove c;"));
            }
            if (turn % 2 == 0) {
                Check.equal("turn in BUILDS", turn, g.settler.turn());
                Check.equal("taken away", 0, g.settler.endBuilds());
            }
        }
        Game odd = RetreatsTest.dislodged();
        odd.settler.endRetreats();
        Check.equal("behind the retreats of turn 1", 0, odd.settler.phase());
        Check.equal("turn", 2, odd.settler.turn());
    }

    /** "each center with a unit belongs to the power of that unit" */
    private static void centersOfUnits() {
        Game g = new Game("land a center;" + areas("land ", 1, 14, ";") + "land p center;border a b;border p o;"
                + "power p a;power q p;army q b;army p o;");
        g.tell("b to a;o to p;");
        Check.equal("settle", 2, g.settler.settle());
        Check.equal("behind turn 1 the first area is p's", 0, g.settler.area(0, 3));
        g.settler.settle();
        Check.equal("behind turn 2 it is q's", 1, g.settler.area(0, 3));
        Check.equal("the last one is p's", 0, g.settler.area(15, 3));
        Check.equal("the homes are as they were", 0, g.settler.area(0, 2));
        Check.equal("the homes are as they were", 1, g.settler.area(15, 2));
        Check.equal("an area that is no center belongs to nobody", -1, g.settler.area(1, 3));
        g.tell("a to b;p to o;");
        g.settler.settle();
        g.settler.settle();
        Check.equal("a center that was left stays q's", 1, g.settler.area(0, 3));
        Check.equal("a unit elsewhere takes nothing", -1, g.settler.area(1, 3));
    }

    /** "If a power can build somewhere or must remove, the phase is BUILDS (2)." */
    private static void somewhereToBuild() {
        String four = "land a center;land b center;land c;land d;power p;power q;power r;power s";
        int[][] phases = {
            phaseOf(four + " a;"), phaseOf(four + " a;army s a;"), phaseOf(four + " a;army s c;"),
            phaseOf(four + " a b;army s c;"), phaseOf(four + ";army p c;"), phaseOf(four + ";army s c;"),
            phaseOf(four + ";army p a;army q b;"), phaseOf(four + ";"),
            // p takes b, which is no home: it has two centers and a unit, and its home is free.
            phaseOf("land a center;land b center;border a b;power p a;army p b;"),
        };
        int[] due = {2, 0, 0, 2, 2, 2, 0, 0, 2};
        for (int i = 0; i < due.length; i++) {
            Check.equal("phase of map " + i, due[i], phases[i][0]);
            Check.equal("turn of map " + i, due[i] == 2 ? 2 : 3, phases[i][1]);
        }
        // More centers than units, but no free home: b is no home.
        Game g = new Game("land a center;land b center;land c;border a b;power p a;army p a;");
        g.tell("a to b;");
        g.settler.settle();
        g.tell("b to a;");
        g.settler.settle();
        Check.equal("one center, one unit", 0, g.settler.phase());
        g.tell("a to b;");
        g.settler.settle();
        g.settler.settle();
        Check.equal("two centers, a free home", 2, g.settler.phase());
        g.settler.endBuilds();
        g.tell("b to a;");
        g.settler.settle();
        g.settler.settle();
        Check.equal("one more center than units", 1, g.settler.power(0, 0) - g.settler.power(0, 1));
        Check.equal("no free home", 0, g.settler.power(0, 3));
        Check.equal("no BUILDS", 0, g.settler.phase());
        Check.equal("turn", 7, g.settler.turn());
    }

    /** The phase and the turn behind the second settling. */
    private static int[] phaseOf(String map) {
        Game g = new Game(map);
        g.settler.settle();
        Check.equal("phase behind turn 1", 0, g.settler.phase());
        g.settler.settle();
        return new int[] {g.settler.phase(), g.settler.turn()};
    }

    /** "it must remove if it has more units than centers": then it may not build, though its home is free. */
    private static void mustRemoveToo() {
        Game g = new Game("land a center;land b;land c;power p a;army p b;army p c;");
        g.settler.settle();
        g.settler.settle();
        Check.equal("phase", 2, g.settler.phase());
        Check.equal("p must remove", -1, g.settler.power(0, 3));
        g.refuses("build ^a army;", FORBIDDEN);
        Check.equal("told", 1, g.tell("remove b;"));
        Check.equal("as many units as centers", 0, g.settler.power(0, 3));
        g.refuses("build ^a army;", FORBIDDEN);
        g.refuses("remove ^c;", FORBIDDEN);
        Check.equal("nothing is taken away", 0, g.settler.endBuilds());
        Check.equal("units", "p A c\n", g.units());
    }

    /** "which must be allowed to build there at this moment"; "a power that must remove at this moment" */
    private static void builtAtThisMoment() {
        // Twelve units: p may build only when q has removed one.
        Game g = new Game(areas("land ", 0, 15, ";") + "land z center;power p z;power q;" + areas("army q ", 0, 12, ";"));
        g.settler.settle();
        g.settler.settle();
        Check.equal("p may build none", 0, g.settler.power(0, 3));
        g.refuses("build ^z army;", FORBIDDEN);
        g.refuses("build ^z army;remove a;", FORBIDDEN);
        Check.equal("told", 2, g.tell("remove a;build z army;"));
        Check.equal("p's unit", 0, g.settler.area(15, 4));
        g.refuses("build ^a army;", FORBIDDEN);
        g.refuses("build ^z army;", DUPLICATE);
        Check.equal("taken away", 11, g.settler.endBuilds());
        Check.equal("units", "p A z\n", g.units());
        // What is built is there for what follows in the text.
        Game two = new Game("land a center;land b center;power p a b;");
        two.settler.settle();
        two.settler.settle();
        two.refuses("build a army;build ^a army;", DUPLICATE);
        two.refuses("build a army;remove ^a;", FORBIDDEN);
        Check.equal("both", 2, two.tell("build a army;build b army;"));
        two.refuses("build ^a army;", DUPLICATE);
    }

    /** "at its homes that belong to it and have no unit" */
    private static void homesAlone() {
        Game g = new Game("land a center;land b center;land c center;land d;coast e;sea f;border b c;"
                + "power p a c;power q;power r b;army r c;army r d;");
        g.settler.settle();
        g.settler.settle();
        Check.equal("p may build one", 1, g.settler.power(0, 3));
        g.refuses("build ^b army;build a army;", FORBIDDEN);
        g.refuses("build ^e fleet;", FORBIDDEN);
        g.refuses("build ^f fleet;", FORBIDDEN);
        g.refuses("build ^c army;", DUPLICATE);
        Check.equal("r has as many units as centers", 0, g.settler.power(2, 3));
        Check.equal("told", 1, g.tell("build a army;"));
        g.refuses("build ^b army;", FORBIDDEN);
    }

    /** "(a fleet only at a coast)" */
    private static void kindsBuilt() {
        String map = "land a center;coast b center;coast c center;power p a b c;";
        Game g = new Game(map);
        g.settler.settle();
        g.settler.settle();
        g.refuses("build a ^fleet;", FORBIDDEN);
        g.refuses("build a ^fleet", FORBIDDEN);
        g.refuses("build a ^hold;", SYNTAX);
        g.refuses("build a ^to b;", SYNTAX);
        Check.equal("told", 3, g.tell("build a army;build b fleet;build c army;"));
        Check.equal("units", "p A a\np F b\np A c\n", g.units());
    }

    /** "those at the areas with the greatest numbers first" */
    private static void greatestNumbersFirst() {
        for (int centers = 0; centers <= 4; centers++) {
            String homes = areas(" y", 0, centers, "");
            Game g = new Game(areas("land ", 0, 8, ";") + areas("land y", 0, 4, " center;") + "power p" + homes
                    + ";power q;army p a;army q b;army p c;army p d;army q e;army p h;");
            g.settler.settle();
            g.settler.settle();
            Check.equal("phase", 2, g.settler.phase());
            Check.equal("taken away with " + centers, 6 - centers, g.settler.endBuilds());
            String[] left = {"", "p A a\n", "p A a\np A c\n", "p A a\np A c\np A d\n", "p A a\np A c\np A d\np A h\n"};
            Check.equal("left with " + centers, left[centers], g.units());
            Check.equal("turn", 3, g.settler.turn());
            Check.equal("phase", 0, g.settler.phase());
        }
    }

    /** "the number of units that were taken away by this call" */
    private static void takenAwayByThisCall() {
        Game g = new Game(areas("land ", 0, 5, ";") + "power p;power q;army p a;army p b;army p c;army q d;");
        g.settler.settle();
        g.settler.settle();
        g.tell("remove a;remove c;");
        Check.equal("one of p and one of q", 2, g.settler.endBuilds());
        Check.equal("units", "", g.units());
        Game none = BuildsTest.building();
        Check.equal("who may build need not", 0, none.settler.endBuilds());
        Check.equal("units", "q A e\np A f\n", none.units());
        Check.equal("orders", "e hold;\nf hold;\n", none.orders());
    }

    /** "Throws IllegalStateException if the phase is another one" */
    private static void orderOfPhases() {
        Game orders = new Game("land a;");
        Check.fails("endRetreats in ORDERS", STATE, orders.settler::endRetreats);
        Check.fails("endBuilds in ORDERS", STATE, orders.settler::endBuilds);
        Game retreats = RetreatsTest.dislodged();
        Check.fails("settle in RETREATS", STATE, retreats.settler::settle);
        Check.fails("endBuilds in RETREATS", STATE, retreats.settler::endBuilds);
        Check.equal("still RETREATS", 1, retreats.settler.phase());
        Game builds = BuildsTest.building();
        Check.fails("settle in BUILDS", STATE, builds.settler::settle);
        Check.fails("endRetreats in BUILDS", STATE, builds.settler::endRetreats);
        Check.equal("still BUILDS", 2, builds.settler.phase());
        // Each phase reads its own texts alone.
        for (String text : new String[] {"^build a army;", "^remove a;"}) {
            orders.refuses(text, SYNTAX);
            RetreatsTest.dislodged().refuses(text, SYNTAX);
        }
        retreats.refuses("b ^hold;", SYNTAX);
        retreats.refuses("b ^support d;", SYNTAX);
        builds.refuses("^a hold;", SYNTAX);
        builds.refuses("^a disband;", SYNTAX);
        new Game("land a;power p;army p a;").refuses("a ^disband;", SYNTAX);
    }

    // ---- undo

    /** "the latest 6 ones" */
    private static void latestSix() {
        for (int settlings = 0; settlings <= 8; settlings++) {
            Game g = new Game("land a;");
            for (int i = 0; i < settlings; i++) {
                g.settler.settle();
            }
            int count = Math.min(settlings, 6);
            Check.equal("undoCount of " + settlings, count, g.settler.undoCount());
            for (int i = count - 1; i >= 0; i--) {
                Check.equal("undo of " + settlings, i, g.settler.undo());
                Check.equal("undoCount", i, g.settler.undoCount());
            }
            Check.fails("one more", STATE, g.settler::undo);
            Check.equal("turn", settlings - count + 1, g.settler.turn());
        }
        // endRetreats() and endBuilds() count as well.
        Game all = new Game("land a center;land b;land c;land d;border a b;border b c;border b d;power p a;power q;"
                + "army p a;army p c;army q b;");
        all.settler.settle();
        all.tell("a to b;c support a to b;");
        all.settler.settle();
        all.tell("b to d;");
        all.settler.endRetreats();
        Check.equal("phase", 2, all.settler.phase());
        all.settler.endBuilds();
        Check.equal("undoCount", 4, all.settler.undoCount());
        all.settler.settle();
        all.settler.settle();
        Check.equal("undoCount", 6, all.settler.undoCount());
        Check.equal("phase", 0, all.settler.phase());
        all.settler.settle();
        Check.equal("undoCount", 6, all.settler.undoCount());
        for (int i = 5; i >= 0; i--) {
            Check.equal("undo", i, all.settler.undo());
        }
        Check.equal("turn behind the first settling", 2, all.settler.turn());
        Check.equal("the orders of that turn", "a to b;\nb hold;\nc support a to b;\n", all.orders());
    }

    /** "Throws IllegalStateException if there is none" */
    private static void nothingToUndo() {
        OrderSettler x = new OrderSettler();
        Check.fails("undo at first", STATE, x::undo);
        Check.equal("undoCount at first", 0, x.undoCount());
        Game g = new Game("land a;power p;army p a;");
        Check.fails("undo of load", STATE, g.settler::undo);
        g.tell("a hold;");
        Check.fails("undo of tell", STATE, g.settler::undo);
        g.settler.settle();
        Check.equal("undo", 0, g.settler.undo());
        Check.fails("undo of undo", STATE, g.settler::undo);
        g.settler.settle();
        g.load("land a;");
        Check.equal("undoCount behind load", 0, g.settler.undoCount());
        Check.fails("undo behind load", STATE, g.settler::undo);
        g.settler.settle();
        g.refusesMap("^x;", SYNTAX);
        Check.equal("undoCount behind a map with an error", 1, g.settler.undoCount());
        Check.equal("undo behind a map with an error", 0, g.settler.undo());
    }

    /** "undo() brings back everything as it was before ..., orders and retreats that were told included" */
    private static void everythingAsItWas() {
        Game g = RetreatsTest.dislodged();
        g.tell("b to d;");
        Check.equal("gone", 0, g.settler.endRetreats());
        g.tell("d to b;");
        g.settler.undo();
        Check.equal("the dislodged unit", 1, g.settler.area(1, 6));
        Check.isTrue("it may retreat again", g.settler.mayRetreat(1, 4));
        Check.isFalse("but not where its attacker came from", g.settler.mayRetreat(1, 0));
        Check.equal("the units", "p A b\np A c\n", g.units());
        Check.equal("its retreat", 0, g.settler.endRetreats());
        Check.equal("where it went", 1, g.settler.area(3, 4));
        g.settler.undo();
        g.tell("b disband;");
        Check.equal("another retreat", 1, g.settler.endRetreats());
        g.settler.undo();
        g.settler.undo();
        Check.equal("the orders", "a to b;\nb hold;\nc support a to b;\n", g.orders());
        // Units that were taken away, and centers that changed hands.
        Game builds = new Game("land a center;land b;land c;power p;power q a;army p a;army p b;army q c;");
        builds.settler.settle();
        builds.settler.settle();
        Check.equal("p's center", 0, builds.settler.area(0, 3));
        Check.equal("taken away", 2, builds.settler.endBuilds());
        Check.equal("undo", 2, builds.settler.undo());
        Check.equal("the units", "p A a\np A b\nq A c\n", builds.units());
        Check.equal("phase", 2, builds.settler.phase());
        Check.equal("p's center still", 0, builds.settler.area(0, 3));
        Check.equal("undo", 1, builds.settler.undo());
        Check.equal("q's center again", 1, builds.settler.area(0, 3));
        Check.equal("turn", 2, builds.settler.turn());
    }

    /** "with all that came behind them": what was told in the phase that is undone, too. */
    private static void undoneInEachPhase() {
        Game orders = new Game("land a;land b;border a b;power p;army p a;");
        orders.tell("a to b;");
        orders.settler.settle();
        orders.tell("b to a;");
        orders.settler.undo();
        Check.equal("orders", "a to b;\n", orders.orders());
        Game retreats = RetreatsTest.dislodged();
        retreats.tell("b to d;");
        retreats.settler.undo();
        retreats.settler.settle();
        Check.equal("the retreat is told no more", 1, retreats.settler.endRetreats());
        Game builds = BuildsTest.building();
        builds.tell("build a army;build c fleet;");
        Check.equal("undo", 1, builds.settler.undo());
        Check.equal("the builds are undone", "q A e\np A f\n", builds.units());
        builds.settler.settle();
        Check.equal("they may be told again", 2, builds.tell("build a army;build c fleet;"));
    }

    /** "before the latest of them that was not undone" */
    private static void settledAnew() {
        Game g = new Game("land a center;land b;land c;border a b;border b c;power p a;army p a;");
        g.tell("a to b;");
        g.settler.settle();
        g.tell("b to c;");
        g.settler.settle();
        Check.equal("undo", 1, g.settler.undo());
        Check.equal("undo", 0, g.settler.undo());
        Check.equal("the first orders", "a to b;\n", g.orders());
        g.tell("a hold;");
        g.settler.settle();
        g.settler.settle();
        g.settler.settle();
        Check.equal("undoCount", 3, g.settler.undoCount());
        g.settler.undo();
        g.tell("a to b;");
        g.settler.settle();
        Check.equal("undo", 2, g.settler.undo());
        Check.equal("the orders before it", "a to b;\n", g.orders());
        Check.equal("undo", 1, g.settler.undo());
        Check.equal("the orders before that", "a hold;\n", g.orders());
        Check.equal("turn", 2, g.settler.turn());
    }

    // ---- load in each phase

    /** "everything begins anew with it, in turn 1, in the phase ORDERS; nothing can be undone" */
    private static void loadedInEachPhase() {
        Game told = BuildsTest.building();
        told.tell("build a army;");
        Game ended = RetreatsTest.dislodged();
        ended.settler.endRetreats();
        Game toldRetreat = RetreatsTest.dislodged();
        toldRetreat.tell("b to d;");
        Game undone = RetreatsTest.dislodged();
        undone.settler.endRetreats();
        undone.settler.undo();
        Game foreseen = new Game(BIG);
        foreseen.tell("a to b;");
        foreseen.settler.foreseeMove(1, 0);
        Game[] games = {told, ended, toldRetreat, undone, foreseen, RetreatsTest.dislodged(), BuildsTest.building()};
        for (Game g : games) {
            // Thrice, so that no map of before is met again.
            g.load(BIG);
            g.settler.settle();
            g.load(BIG);
            checkAnew(g, "land x;sea y;", "");
            checkAnew(g, "land x;sea y;power p;army p x;", "p A x\n");
            checkAnew(g, "land x;sea y;", "");
        }
    }

    private static final String BIG = "coast a center;coast b center;coast c;border a b;border b c;power p a b;power q;"
            + "army p a;army q b;fleet q c;";

    private static void checkAnew(Game g, String map, String units) {
        int count = g.load(map);
        Check.equal("units of " + map, units.isEmpty() ? 0 : 1, count);
        Check.equal("phase", 0, g.settler.phase());
        Check.equal("turn", 1, g.settler.turn());
        Check.equal("undoCount", 0, g.settler.undoCount());
        Check.equal("areas", 2, g.settler.areas());
        Check.equal("powers", units.isEmpty() ? 0 : 1, g.settler.powers());
        int[][] due = {{0, 0, -1, -1, units.isEmpty() ? -1 : 0, units.isEmpty() ? -1 : 0, -1, -1},
            {2, 0, -1, -1, -1, -1, -1, -1}};
        for (int a = 0; a < 2; a++) {
            for (int what = 0; what < 8; what++) {
                Check.equal("area " + a + ", " + what, due[a][what], g.settler.area(a, what));
            }
        }
        Check.isFalse("no border", g.settler.passes(0, 1, false) || g.settler.passes(0, 1, true));
        Check.equal("no distance", -1, g.settler.distance(0, 1, false));
        Check.isTrue("no centers", g.settler.unevenness() == 0);
        Check.equal("units", units, g.units());
        Check.equal("orders", units.isEmpty() ? "" : "x hold;\n", g.orders());
        Check.fails("no area c", NONE, () -> g.at("c"));
        Check.fails("nothing settled", STATE, g.settler::outcomes);
    }
}
