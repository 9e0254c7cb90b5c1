import java.util.NoSuchElementException;

/**
 * The edges of promises 7 to 9, 11 to 16 and 28 to 37: each method tests the sentence of the document that
 * stands above it.
 */
final class ReportEdgesTest {
    private static final Class<NoSuchElementException> NONE = NoSuchElementException.class;
    private static final Class<IllegalArgumentException> RANGE = IllegalArgumentException.class;

    /** Numbers of which there is no area and no power in any map. */
    private static final int[] FAR_OFF = {-1, 16, 17, 31, 32, 33, 64, 255, 256, 65536, Integer.MIN_VALUE,
        Integer.MIN_VALUE + 1, Integer.MAX_VALUE};

    public static void main(String[] args) {
        noSuchArea();
        noSuchPower();
        rangesOfWhat();
        lastAreas();
        sameArea();
        whoeverIsInBetween();
        farthestArea();
        centersMinusUnits();
        homesAtMost();
        twelveUnitsAtMost();
        dislodgedOnesNot();
        holdAtFirst();
        notAtTheAreaItself();
        moreThanOnePlus();
        noCenters();
        allCenters();
        mostCenters();
        replacedContent();
        longestOutput();
        outputIndexes();
        outputStays();
        lastCalls();
        dearestCalls();
        Check.end("ReportEdgesTest");
    }

    private static String many(String before, int count, String behind) {
        StringBuilder text = new StringBuilder();
        for (int i = 0; i < count; i++) {
            text.append(before).append((char) ('a' + i)).append(behind);
        }
        return text.toString();
    }

    /** "Throws NoSuchElementException if there is no such area" */
    private static void noSuchArea() {
        OrderSettler few = new Game("land a;land b;border a b;power p;army p a;army p b;").settler;
        few.settle();
        checkNoArea(few, 2);
        OrderSettler full = new Game(many("land ", 16, ";") + "power p;army p a;army p p;").settler;
        full.settle();
        Check.equal("the last area", 0, full.area(15, 4));
        Check.equal("its result", 5, full.result(15, 0));
        for (int area : FAR_OFF) {
            checkNoArea(few, area);
            checkNoArea(full, area);
        }
    }

    private static void checkNoArea(OrderSettler x, int area) {
        Check.fails("area " + area, NONE, () -> x.area(area, 0));
        Check.fails("passes from " + area, NONE, () -> x.passes(area, 0, false) ? 1 : 0);
        Check.fails("passes to " + area, NONE, () -> x.passes(0, area, true) ? 1 : 0);
        Check.fails("distance from " + area, NONE, () -> x.distance(area, 0, true));
        Check.fails("distance to " + area, NONE, () -> x.distance(0, area, false));
        Check.fails("order " + area, NONE, () -> x.order(area, 0));
        Check.fails("result " + area, NONE, () -> x.result(area, 0));
        Check.fails("isContested " + area, NONE, () -> x.isContested(area) ? 1 : 0);
        Check.fails("mayRetreat from " + area, NONE, () -> x.mayRetreat(area, 0) ? 1 : 0);
        Check.fails("foresee " + area, NONE, () -> x.foresee(area, 0));
        Check.fails("foreseeMove from " + area, NONE, () -> x.foreseeMove(area, 0));
        Check.fails("foreseeMove to " + area, NONE, () -> x.foreseeMove(0, area));
        Check.fails("reach " + area, NONE, () -> x.reach(area, 0, false));
        Check.fails("isThreatened " + area, NONE, () -> x.isThreatened(area) ? 1 : 0);
    }

    /** "Throws NoSuchElementException if there is no such power" */
    private static void noSuchPower() {
        OrderSettler one = new Game("land a center;power p;").settler;
        OrderSettler four = new Game("land a center;power p;power q;power r;power s a;").settler;
        Check.equal("the last power", 1, four.power(3, 0));
        Check.isTrue("its share", four.share(3) == 1);
        checkNoPower(one, 1);
        checkNoPower(four, 4);
        for (int power : FAR_OFF) {
            checkNoPower(one, power);
            checkNoPower(four, power);
        }
        checkNoPower(new Game("land a center;").settler, 0);
    }

    private static void checkNoPower(OrderSettler x, int power) {
        Check.fails("power " + power, NONE, () -> x.power(power, 0));
        Check.fails("reach of " + power, NONE, () -> x.reach(0, power, false));
        Check.fails("reach of others than " + power, NONE, () -> x.reach(0, power, true));
        Check.fails("share of " + power, NONE, () -> (long) x.share(power));
        Check.fails("shareBits of " + power, NONE, () -> x.shareBits(power));
    }

    /** "Throws IllegalArgumentException if what is out of range" */
    private static void rangesOfWhat() {
        OrderSettler x = new Game("land a;power p;army p a;").settler;
        x.settle();
        for (int what : new int[] {-1, Integer.MIN_VALUE, Integer.MAX_VALUE, 256, 8}) {
            Check.fails("area, " + what, RANGE, () -> x.area(0, what));
            Check.fails("power, " + what, RANGE, () -> x.power(0, what));
            Check.fails("order, " + what, RANGE, () -> x.order(0, what));
            Check.fails("result, " + what, RANGE, () -> x.result(0, what));
            Check.fails("foresee, " + what, RANGE, () -> x.foresee(0, what));
        }
        Check.equal("the last report of an area", -1, x.area(0, 7));
        Check.equal("the last report of a power", -1, x.power(0, 3));
        Check.fails("one more", RANGE, () -> x.power(0, 4));
        Check.equal("the last report of an order", -1, x.order(0, 2));
        Check.fails("one more", RANGE, () -> x.order(0, 3));
        Check.equal("the last report of a result", 0, x.result(0, 5));
        Check.fails("one more", RANGE, () -> x.result(0, 6));
        Check.equal("the last report of what would be", 0, x.foresee(0, 5));
        Check.fails("one more", RANGE, () -> x.foresee(0, 6));
    }

    /** "Areas are numbered from 0 in the order of the text": the reports on the last ones of 16. */
    private static void lastAreas() {
        String map = many("land ", 13, ";") + "land x center;coast y center;sea z;border x y;border y z;"
                + "power p;power q x y;army q x;fleet p z;";
        Game g = new Game(map);
        int[][] due = {{0, 1, 1, 1, 1, 0, -1, -1}, {1, 1, 1, 1, -1, -1, -1, -1}, {2, 0, -1, -1, 0, 1, -1, -1}};
        for (int a = 13; a < 16; a++) {
            for (int what = 0; what < 8; what++) {
                Check.equal("area " + a + ", " + what, due[a - 13][what], g.settler.area(a, what));
            }
        }
        Check.equal("centers", 2, g.settler.power(1, 0));
        Check.equal("units", 1, g.settler.power(1, 1));
        Check.equal("homes", 2, g.settler.power(1, 2));
        Check.equal("builds", 1, g.settler.power(1, 3));
        Check.equal("distance", 1, g.settler.distance(14, 15, true));
        Check.equal("reach", 1, g.settler.reach(14, 0, false));
        Check.equal("reach of others", 1, g.settler.reach(14, 0, true));
        Check.equal("units written", "q A x\np F z\n", g.units());
        g.tell("x to y;z support x to y;");
        Check.equal("orders written", "x to y;\nz support x to y;\n", g.orders());
        Check.equal("order", 14, g.settler.order(15, 2));
        g.settler.settle();
        Check.equal("hold again", "y hold;\nz hold;\n", g.orders());
    }

    /** "0 for the same area": whether or not such a unit can be there. */
    private static void sameArea() {
        Game g = new Game("land a;coast b;sea c;border a b;border b c;");
        for (int a = 0; a < 3; a++) {
            Check.equal("armies at " + a, 0, g.settler.distance(a, a, false));
            Check.equal("fleets at " + a, 0, g.settler.distance(a, a, true));
        }
        Check.equal("an army from a sea", -1, g.settler.distance(2, 1, false));
        Check.equal("a fleet to a land", -1, g.settler.distance(1, 0, true));
        Check.isFalse("no area borders itself", g.settler.passes(1, 1, true));
    }

    /** "whoever is in between" */
    private static void whoeverIsInBetween() {
        Game g = new Game("land a;land b;land c;border a b;border b c;power p;power q;army p a;army q b;army q c;");
        Check.equal("through a unit to a unit", 2, g.settler.distance(0, 2, false));
        Check.isTrue("passes to a unit", g.settler.passes(0, 1, false));
    }

    /** "the least number of borders"; "-1 if they cannot" */
    private static void farthestArea() {
        StringBuilder row = new StringBuilder(many("sea ", 16, ";"));
        for (char c = 'b'; c <= 'p'; c++) {
            row.append("border ").append((char) (c - 1)).append(' ').append(c).append(';');
        }
        Game g = new Game(row.toString());
        for (int to = 0; to < 16; to++) {
            Check.equal("fleets to " + to, to, g.settler.distance(0, to, true));
            Check.equal("back from " + to, to, g.settler.distance(to, 0, true));
            Check.equal("armies to " + to, to == 0 ? 0 : -1, g.settler.distance(0, to, false));
        }
        Game ring = new Game(row + "border p a;");
        Check.equal("the other way round", 1, ring.settler.distance(0, 15, true));
        Check.equal("half of the ring", 8, ring.settler.distance(0, 8, true));
        Check.equal("one more", 7, ring.settler.distance(0, 9, true));
        // The shortest way is told by fleets alone, the longer one is for armies.
        Game two = new Game("coast a;coast b;coast c;border a b;border b c;border a c fleet;");
        Check.equal("armies", 2, two.settler.distance(0, 2, false));
        Check.equal("fleets", 1, two.settler.distance(0, 2, true));
    }

    private static int builds(String map) {
        return new Game(map).settler.power(0, 3);
    }

    /** "below 0, must remove ...: the difference of centers and units" */
    private static void centersMinusUnits() {
        String map = many("land ", 16, " center;");
        Check.equal("nothing at all", 0, builds(map + "power p;"));
        Check.equal("twelve units too many", -12, builds(map + "power p;" + many("army p ", 12, ";")));
        Check.equal("one too many", -1, builds(map + "power p a;army p a;army p b;"));
        Check.equal("as many", 0, builds(map + "power p a b;army p c;army p d;"));
        Check.equal("one too few", 1, builds(map + "power p a b;army p c;"));
    }

    /** "at most the number of its homes that belong to it and have no unit" */
    private static void homesAtMost() {
        String map = many("land ", 16, " center;");
        Check.equal("one too few, no free home", 0, builds(map + "power p a b;power q;army p a;army q b;"));
        Check.equal("two too few, no free home", 0, builds(map + "power p a b;power q;army q a;army q b;"));
        Check.equal("two too few, one free home", 1, builds(map + "power p a b;power q;army q b;"));
        Check.equal("all homes are free", 2, builds(map + "power p a b;"));
        Check.equal("sixteen homes, twelve units at most", 12, builds(map + "power p" + many(" ", 16, "") + ";"));
        Check.equal("a free home of another power", 0, builds(map + "power p a b;power q c d;army p a;army q b;"));
        // A home at the first area and one at the last.
        Check.equal("the first and the last area", 2, builds(map + "power p a p;"));
    }

    /** "at most 12 minus the number of all units" */
    private static void twelveUnitsAtMost() {
        String map = many("land ", 16, " center;") + "power p n o p;power q;";
        Check.equal("nine units", 3, builds(map + many("army q ", 9, ";")));
        Check.equal("ten units", 2, builds(map + many("army q ", 10, ";")));
        Check.equal("eleven units", 1, builds(map + many("army q ", 11, ";")));
        Check.equal("twelve units", 0, builds(map + many("army q ", 12, ";")));
        Check.equal("twelve units, one center more than units", 0,
                builds(map + many("army q ", 10, ";") + "army p n;army p k;"));
    }

    /** "dislodged ones not" */
    private static void dislodgedOnesNot() {
        // q's army at c is one of twelve units, and dislodged.
        Game g = new Game(many("land ", 16, " center;") + "border a b;border b c;border a c;border c p;border c o;"
                + "power p o;power q c;power r p;army p a;army p b;army q c;"
                + "army p d;army p e;army p f;army p g;army p h;army p i;army p j;army p k;army q l;");
        Check.equal("r may not build, there are twelve units", 0, g.settler.power(2, 3));
        g.tell("a to c;b support a to c;");
        Check.equal("settle", 1, g.settler.settle());
        Check.equal("phase", 1, g.settler.phase());
        Check.equal("q's units", 1, g.settler.power(1, 1));
        Check.equal("r may build, there are eleven", 1, g.settler.power(2, 3));
        Check.equal("q has as many centers as units", 0, g.settler.power(1, 3));
        Check.equal("the dislodged one", 1, g.settler.area(2, 6));
        Check.equal("who stands at its area", 0, g.settler.area(2, 4));
        Check.equal("the dislodged one can go nowhere", 0, g.settler.reach(15, 1, false));
        Check.equal("the one that came can", 1, g.settler.reach(15, 0, false));
        Check.isFalse("the dislodged one is written", g.units().contains("q A c"));
    }

    /** "In the phase ORDERS (0), each unit has an order, at first to hold." */
    private static void holdAtFirst() {
        Game g = new Game("coast a;sea b;land c;border a b;border a c;power p;army p a;fleet p b;army p c;");
        String hold = "a hold;\nb hold;\nc hold;\n";
        Check.equal("orders", hold, g.orders());
        for (int what = 0; what < 3; what++) {
            Check.equal("order " + what, what == 0 ? 0 : -1, g.settler.order(1, what));
        }
        g.tell("b support a;c support a;a hold;");
        g.settler.settle();
        Check.equal("orders of the next turn", hold, g.orders());
    }

    /** "how many units (not at the area itself) can go there" */
    private static void notAtTheAreaItself() {
        Game g = new Game("coast a;coast b;sea c;land d;border a b;border a c;border b c;border a d;border b d;"
                + "power p;power q;army p a;fleet p b;fleet q c;army q d;");
        int[][] due = {{1, 2}, {1, 2}, {1, 0}, {1, 0}};
        for (int a = 0; a < 4; a++) {
            Check.equal("p's units to " + a, due[a][0], g.settler.reach(a, 0, false));
            Check.equal("others to " + a, due[a][1], g.settler.reach(a, 0, true));
        }
        Check.equal("a move by sea is not direct", 0,
                new Game("coast a;coast b;sea s;border a s;border b s;power p;army p a;fleet p s;").settler.reach(0, 0, true));
        Game none = new Game("land a;land b;border a b;power p;power q;");
        Check.equal("no units", 0, none.settler.reach(0, 0, false));
        Check.equal("no units of others", 0, none.settler.reach(0, 1, true));
        // Of four powers the units of three are others.
        Game four = new Game("land a;land b;land c;land d;land e;border a b;border a c;border a d;border a e;"
                + "power p;power q;power r;power s;army p b;army q c;army r d;army s e;");
        Check.equal("one of its own", 1, four.settler.reach(0, 3, false));
        Check.equal("three others", 3, four.settler.reach(0, 3, true));
    }

    /** "more than 1 plus the units of its power (not itself) that can go there" */
    private static void moreThanOnePlus() {
        String map = "land a;" + many("land x", 11, ";") + many("border a x", 11, ";") + "power p;power q;power r;army p a;";
        for (int foes = 0; foes <= 8; foes++) {
            for (int friends = 0; friends <= 3; friends++) {
                StringBuilder units = new StringBuilder();
                for (int i = 0; i < foes + friends; i++) {
                    String power = i >= foes ? "p" : i % 2 == 0 ? "q" : "r";
                    units.append("army ").append(power).append(" x").append((char) ('a' + i)).append(';');
                }
                Game g = new Game(map + units);
                Check.equal(foes + " foes, " + friends + " friends", foes > 1 + friends ? 1 : 0,
                        g.settler.isThreatened(0) ? 1 : 0);
            }
        }
        Check.fails("no unit", NONE, () -> new Game(map).settler.isThreatened(1) ? 1 : 0);
    }

    /** "0 if there are no centers" */
    private static void noCenters() {
        OrderSettler x = new Game("land a;coast b;sea c;power p;power q;army p a;").settler;
        for (int p = 0; p < 2; p++) {
            Check.isTrue("share", x.share(p) == 0);
            Check.equal("shareBits", 0, x.shareBits(p));
        }
        Check.isTrue("unevenness", x.unevenness() == 0);
        Check.equal("unevennessBits", 0, x.unevennessBits());
        // Centers that belong to nobody, and no powers.
        OrderSettler free = new Game("land a center;power p;").settler;
        Check.equal("shareBits of none", 0, free.shareBits(0));
        Check.equal("unevennessBits of none", 0, free.unevennessBits());
        Check.equal("unevennessBits without powers", 0, new Game("land a center;").settler.unevennessBits());
        Check.equal("unevennessBits of an empty map", 0, new OrderSettler().unevennessBits());
    }

    /** "the number of its centers divided by the number of all centers" */
    private static void allCenters() {
        for (int all : new int[] {1, 2, 3, 7, 15, 16}) {
            String centers = many("land ", all, " center;");
            OrderSettler x = new Game(centers + "power q;power p" + many(" ", all, "") + ";").settler;
            Check.equal("all of them", Float.floatToIntBits(1f), x.shareBits(1));
            Check.equal("alone", Double.doubleToLongBits(1.0), x.unevennessBits());
            Check.equal("none", 0, x.shareBits(0));
        }
        Game four = new Game(many("land ", 16, " center;") + "power p a;power q b;power r c d;power s e f g;");
        double sum = 0;
        for (int own : new int[] {1, 1, 2, 3}) {
            sum += (own / 16.0) * (own / 16.0);
        }
        Check.equal("of sixteen", Double.doubleToLongBits(sum), four.settler.unevennessBits());
        Check.equal("three of sixteen", Float.floatToIntBits(3f / 16f), four.settler.shareBits(3));
        // The order of the sum counts: thirds and sevenths are not exact.
        for (int[] owns : new int[][] {{1, 2, 3, 1}, {3, 1, 2, 1}, {1, 1, 4, 1}, {4, 1, 1, 1}, {2, 2, 2, 1}}) {
            checkSum(owns);
        }
    }

    private static void checkSum(int[] owns) {
        StringBuilder map = new StringBuilder(many("land ", 7, " center;"));
        double sum = 0;
        int next = 0;
        for (int p = 0; p < owns.length; p++) {
            map.append("power p").append((char) ('a' + p));
            for (int i = 0; i < owns[p]; i++) {
                map.append(' ').append((char) ('a' + next++));
            }
            map.append(';');
            double s = (double) owns[p] / 7.0;
            sum += s * s;
        }
        OrderSettler x = new Game(map.toString()).settler;
        Check.equal("unevennessBits of " + map, Double.doubleToLongBits(sum), x.unevennessBits());
    }

    /** "the power with most centers, among equals that with most units, among equals the least" */
    private static void mostCenters() {
        String land = many("land ", 6, " center;");
        String[] maps = {
            "0power p;", "0power p;power q;power r;power s;", "3power p;power q;power r;power s a;",
            "0power p a;power q b;army p a;", "1power p a;power q b;army q a;", "0power p;power q;army p a;army p b;army q c;",
            "1power p;power q;army p a;army q b;army q c;", "0power p a;power q;army q b;army q c;",
            "1power p a;power q b c;power r d e;army p a;army p b;army p c;",
            "2power p a;power q b c;power r d e;army r a;", "1power p a;power q b c;power r d e;army q a;army r b;",
            "0power p a b;power q c d;army p a;army p b;army q c;",
        };
        for (String map : maps) {
            Check.equal("leader of " + map, map.charAt(0) - '0', new Game(land + map.substring(1)).settler.leader());
        }
        Check.fails("no powers", NONE, () -> new Game(land).settler.leader());
    }

    /** "replacing its content" */
    private static void replacedContent() {
        Game g = new Game("land a;land b;border a b;power ppppp;army ppppp a;");
        Check.equal("units", 10, g.settler.writeUnits());
        Check.equal("the last byte", 10, g.settler.outputByte(9));
        Check.equal("orders", 8, g.settler.writeOrders());
        Check.fails("behind the shorter text", IndexOutOfBoundsException.class, () -> g.settler.outputByte(8));
        Check.equal("units again", "ppppp A a\n", g.units());
        g.load("land a;");
        Check.equal("no units", 0, g.settler.writeUnits());
        Check.fails("an empty text", IndexOutOfBoundsException.class, () -> g.settler.outputByte(0));
        Check.equal("no orders", 0, g.settler.writeOrders());
        Check.fails("an empty text", IndexOutOfBoundsException.class, () -> g.settler.outputByte(0));
    }

    /** Twelve units with the longest names. */
    private static void longestOutput() {
        Game g = new Game("power zzzzz;" + many("coast aaaa", 13, ";") + many("fleet zzzzz aaaa", 12, ";"));
        Check.equal("length", 12 * 14, g.settler.writeUnits());
        Check.equal("units", many("zzzzz F aaaa", 12, "\n"), g.units());
        Check.equal("orders", many("aaaa", 12, " hold;\n"), g.orders());
    }

    /** "Throws IndexOutOfBoundsException if index is negative or not less than the length of the output" */
    private static void outputIndexes() {
        Game g = new Game("land a;power p;army p a;");
        Check.equal("length", 6, g.settler.writeUnits());
        for (int i = 0; i < 6; i++) {
            Check.equal("byte " + i, "p A a\n".charAt(i), g.settler.outputByte(i));
        }
        for (int index : new int[] {6, 7, 19, 20, 359, 360, 361, 1000, -1, -6, Integer.MIN_VALUE, Integer.MAX_VALUE}) {
            Check.fails("index " + index, IndexOutOfBoundsException.class, () -> g.settler.outputByte(index));
        }
    }

    /** "only the output buffer stays"; and a call that throws leaves it. */
    private static void outputStays() {
        Game g = RetreatsTest.dislodged();
        String units = g.units();
        Check.fails("writeOrders in RETREATS", IllegalStateException.class, g.settler::writeOrders);
        Check.equal("the output", units, g.output(units.length()));
        Check.fails("its end", IndexOutOfBoundsException.class, () -> g.settler.outputByte(units.length()));
        g.load("sea z;");
        Check.equal("the output behind load", units, g.output(units.length()));
        g.refusesMap("^x;", 1);
        g.tell("");
        g.settler.settle();
        g.settler.undo();
        Check.equal("the output behind other calls", units, g.output(units.length()));
        Check.fails("its end", IndexOutOfBoundsException.class, () -> g.settler.outputByte(units.length()));
    }

    /** "An object is used for at most 512 calls": the last ones answer like the first. */
    private static void lastCalls() {
        OrderSettler x = new OrderSettler();
        for (int call = 1; call <= 510; call++) {
            Check.equal("settle " + call, 0, x.settle());
        }
        Check.equal("call 511", 511, x.turn());
        Check.equal("call 512", 6, x.undoCount());
        Game g = new Game("land a center;land b;border a b;power p a;army p a;");
        for (int i = 0; i < 126; i++) {
            g.tell(i % 2 == 0 ? "a to b;" : "b to a;");
            Check.equal("settle " + i, 1, g.settler.settle());
            Check.equal("the unit behind it", 0, g.settler.area(1 - i % 2, 4));
        }
    }

    /** The same for the dearest call: twelve moves, of which no other call makes fewer. */
    private static void dearestCalls() {
        StringBuilder map = new StringBuilder(many("land ", 13, ";") + "power p;power q;" + many("army p ", 12, ";"));
        StringBuilder orders = new StringBuilder();
        for (char c = 'a'; c <= 'l'; c++) {
            char next = c == 'l' ? 'a' : (char) (c + 1);
            map.append("border ").append(c).append(' ').append(next).append(';');
            orders.append(c).append(" to ").append(next).append(';');
        }
        Game g = new Game(map + "border a m;");
        g.tell(orders.toString());
        for (int i = 0; i < 460; i++) {
            Check.equal("foresee " + i, 1, g.settler.foresee(i % 12, 0));
        }
        Check.equal("a move out of the ring", 1, g.settler.foreseeMove(0, 12));
        Check.equal("settle", 12, g.settler.settle());
        Check.equal("outcomes", 2, g.settler.outcomes());
    }
}
