/** Promises 13 and 23, and the texts of builds: centers change hands, units are built and removed. */
final class BuildsTest {
    private static final int SYNTAX = 1;
    private static final int UNKNOWN = 2;
    private static final int DUPLICATE = 3;
    private static final int FORBIDDEN = 4;

    public static void main(String[] args) {
        evenTurns();
        building();
        buildTexts();
        removalTexts();
        doneAtOnce();
        surplus();
        surplusAtTheEnds();
        twelveUnits();
        lostHomes();
        noBuildsNeeded();
        Check.end("BuildsTest");
    }

    private static final String MAP = "coast a center;land b center;coast c center;sea d;land e center;land f;"
            + "border a b;border b c;border a d;border c d;border b e;border e f;border b f;"
            + "power p a b c;power q;army p f;army q e;";

    /** A game in BUILDS: p may build two units; q has taken e. */
    static Game building() {
        Game g = new Game(MAP);
        Check.equal("p's builds before", 2, g.settler.power(0, 3));
        g.settler.settle();
        g.settler.settle();
        Check.equal("phase()", 2, g.settler.phase());
        return g;
    }

    private static void evenTurns() {
        Game g = new Game(MAP);
        Check.equal("settle", 0, g.settler.settle());
        Check.equal("no owner behind turn 1", -1, g.settler.area(4, 3));
        Check.equal("phase() behind turn 1", 0, g.settler.phase());
        Check.equal("turn()", 2, g.settler.turn());
        g.settler.settle();
        Check.equal("the owner behind turn 2", 1, g.settler.area(4, 3));
        Check.equal("a home without a unit stays", 0, g.settler.area(0, 3));
        Check.equal("phase()", 2, g.settler.phase());
        Check.equal("turn()", 2, g.settler.turn());
        Check.fails("settle in BUILDS", IllegalStateException.class, g.settler::settle);
        Check.fails("foresee in BUILDS", IllegalStateException.class, () -> g.settler.foresee(0, 0));
        Check.fails("writeOrders in BUILDS", IllegalStateException.class, g.settler::writeOrders);
        Check.fails("order in BUILDS", IllegalStateException.class, () -> g.settler.order(4, 0));
        Check.equal("endBuilds", 0, g.settler.endBuilds());
        Check.equal("phase()", 0, g.settler.phase());
        Check.equal("turn()", 3, g.settler.turn());
        Check.fails("endBuilds in ORDERS", IllegalStateException.class, g.settler::endBuilds);
        Check.fails("endBuilds in RETREATS", IllegalStateException.class, RetreatsTest.dislodged().settler::endBuilds);
    }

    private static void buildTexts() {
        Game g = building();
        g.refuses("build ^x army;", UNKNOWN);
        g.refuses("build ^e army;", DUPLICATE);
        g.refuses("build ^d fleet;", FORBIDDEN);
        g.refuses("build ^d", FORBIDDEN);
        g.refuses("build b ^fleet;", FORBIDDEN);
        g.refuses("build b ^fleet", FORBIDDEN);
        for (String text : new String[] {"build^", "build ^;", "build ^army a;", "build a^", "build a ^;", "build a ^b;",
            "build a army^", "build a army ^fleet;", "^a army;", "^a hold;", "^e disband;", "^army a;", "^;",
            "build ^abcdef army;", "build a ^hold;", "remove^", "remove ^;", "remove ^build;"}) {
            g.refuses(text, SYNTAX);
        }
        g.refuses("build a army;build b army;build ^c army;", FORBIDDEN);
        Check.equal("nothing was built", "q A e\np A f\n", g.units());
        g.refuses("build a army;build ^a army;", DUPLICATE);
        Check.equal("builds", 2, g.tell("build a army;build c fleet;"));
        Check.equal("units", "p A a\np F c\nq A e\np A f\n", g.units());
        Check.equal("phase() goes on", 2, g.settler.phase());
        g.refuses("build ^b army;", FORBIDDEN);
        Check.equal("endBuilds", 0, g.settler.endBuilds());
        Check.equal("units hold", "a hold;\nc hold;\ne hold;\nf hold;\n", g.orders());
    }

    private static void removalTexts() {
        Game g = new Game("land a center;land b;land c;land d;border a b;power p a;power q;"
                + "army p a;army p b;army p c;army q d;");
        g.settler.settle();
        g.settler.settle();
        Check.equal("p must remove", -2, g.settler.power(0, 3));
        Check.equal("q must remove", -1, g.settler.power(1, 3));
        Check.equal("phase()", 2, g.settler.phase());
        g.refuses("remove ^x;", UNKNOWN);
        g.refuses("remove a ^b;", SYNTAX);
        g.refuses("remove a;remove ^a;", UNKNOWN);
        g.refuses("remove a;remove b;remove ^c;", FORBIDDEN);
        Check.equal("nothing was removed", 3, g.settler.power(0, 1));
        Check.equal("removals", 2, g.tell("remove a;remove d;"));
        Check.equal("no unit's kind", -1, g.settler.area(0, 5));
        Check.equal("units", "p A b\np A c\n", g.units());
        Check.equal("p must still remove", -1, g.settler.power(0, 3));
        g.refuses("build ^d army;", FORBIDDEN);
        Check.equal("taken away", 1, g.settler.endBuilds());
        Check.equal("units", "p A b\n", g.units());
    }

    /** What is told is done at once: a removal makes no room for a power that has enough. */
    private static void doneAtOnce() {
        Game g = new Game("land a center;land b center;land c;land d;power p a b;power q;army p c;army q d;");
        g.settler.settle();
        g.settler.settle();
        Check.equal("told", 2, g.tell("build b army;remove d;"));
        g.refuses("build ^a army;", FORBIDDEN);
        g.refuses("remove ^c;", FORBIDDEN);
        Check.equal("units", "p A b\np A c\n", g.units());
    }

    private static void surplus() {
        Game g = new Game("land a;land b;land c;land d center;land e;land f;power p d;power q;"
                + "army p a;army p b;army p d;army q c;army q f;army p e;");
        g.settler.settle();
        g.settler.settle();
        Check.equal("taken away", 5, g.settler.endBuilds());
        Check.equal("units", "p A a\n", g.units());
        Check.equal("turn()", 3, g.settler.turn());
        Check.equal("undoCount()", 3, g.settler.undoCount());
    }

    /** Units at the first and at the last area are taken away as well. */
    private static void surplusAtTheEnds() {
        StringBuilder map = new StringBuilder();
        for (char c = 'a'; c <= 'p'; c++) {
            map.append("land ").append(c).append(";");
        }
        Game g = new Game(map + "power p;army p a;army p p;");
        g.settler.settle();
        g.settler.settle();
        Check.equal("taken away", 2, g.settler.endBuilds());
        Check.equal("units", "", g.units());
        Check.equal("no unit's kind", -1, g.settler.area(0, 5));
        Check.equal("no unit's kind at the end", -1, g.settler.area(15, 5));
        Check.equal("the next turn", 0, g.settler.settle());
    }

    /** No power may build when there are twelve units. */
    private static void twelveUnits() {
        StringBuilder map = new StringBuilder();
        for (char c = 'a'; c <= 'p'; c++) {
            map.append("land ").append(c).append(" center;");
        }
        map.append("power p a b c d;power q;");
        for (char c = 'e'; c <= 'o'; c++) {
            map.append("army q ").append(c).append(";");
        }
        Game eleven = new Game(map.toString());
        Check.equal("p may build one", 1, eleven.settler.power(0, 3));
        eleven.settler.settle();
        eleven.settler.settle();
        Check.equal("phase()", 2, eleven.settler.phase());
        eleven.refuses("build a army;build ^b army;", FORBIDDEN);
        Check.equal("one is built", 1, eleven.tell("build a army;"));
        Check.equal("p may build no more", 0, eleven.settler.power(0, 3));
        map.append("army q p;");
        Game twelve = new Game(map.toString());
        Check.equal("p may build none", 0, twelve.settler.power(0, 3));
        twelve.settler.settle();
        twelve.settler.settle();
        Check.equal("no BUILDS", 0, twelve.settler.phase());
        Check.equal("turn()", 3, twelve.settler.turn());
    }

    /** A home that belongs to another power is no place to build. */
    private static void lostHomes() {
        Game g = new Game("land a center;land b center;land c center;land d;border a d;border b d;border c d;"
                + "power p a b c;power q;army q a;");
        g.settler.settle();
        g.settler.settle();
        Check.equal("q owns a", 1, g.settler.area(0, 3));
        Check.equal("a is p's home", 0, g.settler.area(0, 2));
        Check.equal("p may build", 2, g.settler.power(0, 3));
        g.tell("build b army;");
        g.settler.endBuilds();
        g.tell("a to d;");
        g.settler.settle();
        g.settler.settle();
        Check.equal("phase()", 2, g.settler.phase());
        Check.equal("p has two centers", 2, g.settler.power(0, 0));
        Check.equal("p may build", 1, g.settler.power(0, 3));
        g.refuses("build ^a army;", FORBIDDEN);
        Check.equal("build", 1, g.tell("build c army;"));
    }

    private static void noBuildsNeeded() {
        Game g = new Game("land a center;land b center;border a b;power p a;army p a;");
        g.settler.settle();
        g.settler.settle();
        Check.equal("turn()", 3, g.settler.turn());
        Check.equal("phase()", 0, g.settler.phase());
        g.tell("a to b;");
        g.settler.settle();
        g.settler.settle();
        Check.equal("p may build at a", 2, g.settler.phase());
        Check.equal("one unit", 1, g.settler.power(0, 3));
    }
}
