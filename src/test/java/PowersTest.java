/** Each two of four powers, whatever their numbers are; each method tests the sentence that stands above it. */
final class PowersTest {
    private static final int FORBIDDEN = 4;
    private static final String POWERS = "power w;power x;power y;power z;";

    public static void main(String[] args) {
        for (int one = 0; one < 4; one++) {
            for (int other = 0; other < 4; other++) {
                if (one != other) {
                    ownUnits(one, other);
                    ownSupports(one, other);
                    cuts(one, other);
                    dislodged(one, other);
                    reaching(one, other);
                    homes(one, other);
                    centersChangeHands(one, other);
                    removals(one, other);
                    leaders(one, other);
                }
            }
        }
        cutByTheSupportedPower();
        attackOfTheBeatenOne();
        manyTurns();
        Check.end("PowersTest");
    }

    private static String name(int power) {
        return String.valueOf("wxyz".charAt(power));
    }

    private static String army(int power, String area) {
        return "army " + name(power) + " " + area + ";";
    }

    /** The powers, of which one has these homes. */
    private static String powers(int power, String homes) {
        return POWERS.replace("power " + name(power), "power " + name(power) + homes);
    }

    private static Game game(String map, String orders) {
        Game g = new Game(map);
        g.tell(orders);
        return g;
    }

    private static void told(String what, Game g, String area, int... due) {
        for (int report = 0; report < due.length; report++) {
            Check.equal(what + ", result " + report + " of " + area, due[report], g.result(area, report));
        }
    }

    /** "if u is of the same power, it is 0" */
    private static void ownUnits(int one, int other) {
        String map = "land a;land b;land c;border a b;border c b;" + POWERS;
        Game own = game(map + army(one, "a") + army(one, "b") + army(other, "c"), "a to b;c support a to b;");
        Check.equal("to its own unit, " + one, 0, own.settler.settle());
        told("to its own unit, " + one, own, "a", 2, 0, 2, 0, 2, 0);
        Game foe = game(map + army(one, "a") + army(other, "b") + army(one, "c"), "a to b;c support a to b;");
        Check.equal("to another one's, " + one + other, 1, foe.settler.settle());
        told("to another one's, " + one + other, foe, "b", 5, 1, 1, 0, 0, 0);
    }

    /** "1 plus the number of given supports that belong to the move and are not of the power of u" */
    private static void ownSupports(int one, int other) {
        Game g = game("land a;land b;land c;land d;land e;border a b;border c b;border d b;border e b;" + POWERS
                + army(one, "a") + army(other, "b") + army(other, "c") + army(one, "d"),
                "a to b;c support a to b;d support a to b;");
        Check.equal("settle", 1, g.settler.settle());
        told("supports of " + one + " and " + other, g, "a", 1, 0, 3, 2, 0, 0);
        Game less = game("land a;land b;land c;border a b;border c b;" + POWERS
                + army(one, "a") + army(other, "b") + army(other, "c"), "a to b;c support a to b;");
        Check.equal("settle", 0, less.settler.settle());
        told("a support of " + other, less, "a", 2, 0, 2, 1, 2, 0);
    }

    /** "no move with a path goes to its area that is of another power" */
    private static void cuts(int one, int other) {
        String map = "land a;land b;land c;land d;border a b;border c b;border d c;" + POWERS + army(one, "a")
                + army(other, "b") + army(one, "c");
        Game cut = game(map + army(other, "d"), "a to b;c support a to b;d to c;");
        Check.equal("settle", 0, cut.settler.settle());
        told("cut by " + other, cut, "c", 4, 0, 1, 0, 0, 0);
        Game own = game(map + army(one, "d"), "a to b;c support a to b;d to c;");
        Check.equal("settle", 1, own.settler.settle());
        told("not cut by " + one, own, "c", 3, 0, 1, 0, 0, 0);
    }

    /** "6 and 7 the same of the dislodged unit that stands aside there" */
    private static void dislodged(int one, int other) {
        Game g = game("land a;land b;land c;land d;border a b;border c b;border d b;" + POWERS + army(one, "a")
                + army(other, "b") + army(one, "c"), "a to b;c support a to b;");
        Check.equal("settle", 1, g.settler.settle());
        Check.equal("power of the unit", one, g.settler.area(1, 4));
        Check.equal("power of the dislodged one", other, g.settler.area(1, 6));
        Check.equal("kind of the dislodged one", 0, g.settler.area(1, 7));
        Check.equal("its units", 0, g.settler.power(other, 1));
        Check.equal("the units of the attacker", 2, g.settler.power(one, 1));
        g.tell("b to d;");
        Check.equal("gone", 0, g.settler.endRetreats());
        Check.equal("power where it is now", other, g.settler.area(3, 4));
        Check.equal("its units", 1, g.settler.power(other, 1));
        Check.equal("units", name(one) + " A b\n" + name(one) + " A c\n" + name(other) + " A d\n", g.units());
    }

    /** "false: units of this power, true: units of all others"; isThreatened */
    private static void reaching(int one, int other) {
        Game g = new Game("land a;land b;land c;land d;land e;border a b;border a c;border a d;" + POWERS + army(one, "a")
                + army(other, "b") + army(other, "c") + army(one, "e"));
        Check.equal("none of its own", 0, g.settler.reach(0, one, false));
        Check.equal("two of others", 2, g.settler.reach(0, one, true));
        Check.equal("two of the other one", 2, g.settler.reach(0, other, false));
        Check.equal("none of others than that", 0, g.settler.reach(0, other, true));
        Check.isTrue("threatened", g.settler.isThreatened(0));
        Check.isFalse("not threatened", g.settler.isThreatened(1));
        Game friend = new Game("land a;land b;land c;land d;border a b;border a c;border a d;" + POWERS + army(one, "a")
                + army(other, "b") + army(other, "c") + army(one, "d"));
        Check.isFalse("not with a friend", friend.settler.isThreatened(0));
    }

    /** "2 its homes, 3 how many units it may build": which it may build there alone, before the end of the phase. */
    private static void homes(int one, int other) {
        Game g = new Game("land a center;land b center;land c;" + powers(one, " a b") + army(other, "c"));
        Check.equal("homes", 2, g.settler.power(one, 2));
        Check.equal("homes of the other one", 0, g.settler.power(other, 2));
        Check.equal("centers", 2, g.settler.power(one, 0));
        Check.equal("builds", 2, g.settler.power(one, 3));
        Check.equal("removals", -1, g.settler.power(other, 3));
        Check.equal("home of", one, g.settler.area(0, 2));
        Check.equal("belongs to", one, g.settler.area(1, 3));
        g.settler.settle();
        g.settler.settle();
        Check.equal("phase", 2, g.settler.phase());
        Check.equal("told", 2, g.tell("build b army;remove c;"));
        Check.equal("power of the new one", one, g.settler.area(1, 4));
        Check.equal("builds", 1, g.settler.power(one, 3));
        Check.equal("removals", 0, g.settler.power(other, 3));
        Check.equal("taken away", 0, g.settler.endBuilds());
        Check.equal("units", name(one) + " A b\n", g.units());
        Game alone = new Game("land a center;land b;" + powers(one, " a"));
        alone.settler.settle();
        alone.settler.settle();
        Check.equal("phase with builds alone", 2, alone.settler.phase());
    }

    /** "each center with a unit belongs to the power of that unit" */
    private static void centersChangeHands(int one, int other) {
        Game g = game("land a center;land b;border a b;" + powers(one, " a") + army(other, "b"), "b to a;");
        Check.isTrue("all shares", g.settler.share(one) == 1 && g.settler.share(other) == 0);
        g.settler.settle();
        g.settler.settle();
        Check.equal("belongs to", other, g.settler.area(0, 3));
        Check.equal("home of", one, g.settler.area(0, 2));
        Check.isTrue("all shares", g.settler.share(one) == 0 && g.settler.share(other) == 1);
        Check.equal("bits", Float.floatToIntBits(1), g.settler.shareBits(other));
        Check.equal("may not build in what is lost", 0, g.settler.power(one, 3));
    }

    /** "At the end of the phase, of each power that must still remove, units are taken away" */
    private static void removals(int one, int other) {
        Game g = new Game("land a;land b center;land c;land d;" + powers(other, " b") + army(one, "a") + army(one, "c")
                + army(other, "b") + army(other, "d"));
        g.settler.settle();
        g.settler.settle();
        Check.equal("phase", 2, g.settler.phase());
        Check.equal("one must remove two", -2, g.settler.power(one, 3));
        Check.equal("the other one", -1, g.settler.power(other, 3));
        Check.equal("told", 1, g.tell("remove a;"));
        Check.equal("two are left to remove", 2, g.settler.endBuilds());
        Check.equal("units", name(other) + " A b\n", g.units());
        Game alone = new Game("land a;" + POWERS + army(one, "a"));
        alone.settler.settle();
        alone.settler.settle();
        Check.equal("phase with removals alone", 2, alone.settler.phase());
        Check.equal("taken away", 1, alone.settler.endBuilds());
    }

    /** "the power with most centers, among equals that with most units, among equals the least" */
    private static void leaders(int one, int other) {
        String map = "land a center;land b center;land c center;land d;";
        Check.equal("most centers", one, new Game(map + powers(one, " a b").replace("power " + name(other) + ";",
                "power " + name(other) + " c;") + army(other, "d") + army(other, "c")).settler.leader());
        Check.equal("most units", one, new Game(map + POWERS + army(one, "a") + army(one, "b") + army(other, "c"))
                .settler.leader());
        Check.equal("the least", Math.min(one, other), new Game(map + POWERS + army(one, "a") + army(other, "c"))
                .settler.leader());
    }

    /** "that is of another power": than the support is, not than the unit that is supported. */
    private static void cutByTheSupportedPower() {
        String map = "land a;land b;land c;land d;border a b;border c b;border d c;border a c;power p;power q;power r;"
                + "army p a;army q b;army r c;";
        Game supported = game(map + "army p d;", "a to b;c support a to b;d to c;");
        Check.equal("by the power that is supported", 0, supported.settler.settle());
        told("by the power that is supported", supported, "c", 4, 0, 1, 0, 0, 0);
        Game attacked = game(map + "army q d;", "a to b;c support a to b;d to c;");
        Check.equal("by the power that is attacked", 0, attacked.settler.settle());
        told("by the power that is attacked", attacked, "c", 4, 0, 1, 0, 0, 0);
        Game own = game(map + "army r d;", "a to b;c support a to b;d to c;");
        Check.equal("by its own power", 1, own.settler.settle());
        told("by its own power", own, "c", 3, 0, 1, 0, 0, 0);
        Game stays = game(map + "army p d;", "c support a;d to c;");
        Check.equal("of a unit that stays", 0, stays.settler.settle());
        told("of a unit that stays", stays, "c", 4, 0, 1, 0, 0, 0);
        told("of a unit that stays", stays, "a", 5, 0, 1, 0, 0, 0);
        Game other = game(map + "army r d;", "c support a;d to c;");
        other.settler.settle();
        told("of a unit that stays, by its own", other, "c", 3, 0, 1, 0, 0, 0);
        told("of a unit that stays, by its own", other, "a", 5, 0, 2, 0, 0, 0);
    }

    /** "if it has a move that succeeds and is not opposed to this one": behind an opposed one that succeeds it is less. */
    private static void attackOfTheBeatenOne() {
        Game g = game("land a;land b;land c;land d;land e;border a b;border c b;border d a;border e a;power p;power q;"
                + "army p a;army q b;army q c;army q d;army q e;",
                "a to b;b to a;c support a to b;d support b to a;e support b to a;");
        Check.equal("settle", 1, g.settler.settle());
        told("its support is of the other power", g, "a", 2, 1, 2, 1, 2, 0);
        told("the stronger one", g, "b", 1, 0, 3, 3, 0, 0);
        Game third = game("land a;land b;land c;land d;land e;border a b;border c b;border d a;border e a;power p;power q;"
                + "power r;army p a;army q b;army r c;army q d;army q e;",
                "a to b;b to a;c support a to b;d support b to a;e support b to a;");
        Check.equal("settle", 1, third.settler.settle());
        told("its support is of a third power", third, "a", 2, 1, 2, 2, 2, 0);
    }

    /** "Behind each turn with an even number": as many as the calls allow. */
    private static void manyTurns() {
        OrderSettler x = new Game("land a center;land b center;land c;power p b;power q a;army p b;").settler;
        int calls = 20;
        while (calls < 505) {
            Check.equal("phase before turn " + x.turn(), 0, x.phase());
            boolean even = x.turn() % 2 == 0;
            x.settle();
            Check.equal("phase behind it", even ? 2 : 0, x.phase());
            calls += 4;
            if (even) {
                x.endBuilds();
                calls++;
            }
        }
        Check.isTrue("turns", x.turn() > 100);
    }
}
