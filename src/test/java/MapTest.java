import java.util.NoSuchElementException;

/** Promises 7 to 9 and 11 to 15: areas, powers, borders, distances, and what is told of them. */
final class MapTest {
    // The areas: a 0 land, b 1 coast, c 2 coast, d 3 sea, e 4 sea, f 5 coast, g 6 land.
    private static final String MAP = "land a center;coast b center;coast c;sea d;sea e;coast f center;land g;"
            + "border a b;border b c army;border c d;border b d;border d e;border e f;border c f fleet;border a g;"
            + "power p a b;power q f;power r;"
            + "army p a;fleet p b;fleet q e;army q f;";

    private static final Class<NoSuchElementException> NONE = NoSuchElementException.class;
    private static final Class<IllegalArgumentException> RANGE = IllegalArgumentException.class;

    public static void main(String[] args) {
        counts();
        areaReports();
        areaErrors();
        passing();
        distances();
        powerReports();
        powerErrors();
        Check.end("MapTest");
    }

    private static void counts() {
        Game g = new Game(MAP);
        Check.equal("areas()", 7, g.settler.areas());
        Check.equal("powers()", 3, g.settler.powers());
        Check.equal("phase()", 0, g.settler.phase());
        Check.equal("turn()", 1, g.settler.turn());
    }

    private static void areaReports() {
        Game g = new Game(MAP);
        int[][] due = {
            {0, 1, 0, 0, 0, 0, -1, -1}, {1, 1, 0, 0, 0, 1, -1, -1}, {1, 0, -1, -1, -1, -1, -1, -1},
            {2, 0, -1, -1, -1, -1, -1, -1}, {2, 0, -1, -1, 1, 1, -1, -1}, {1, 1, 1, 1, 1, 0, -1, -1},
            {0, 0, -1, -1, -1, -1, -1, -1},
        };
        for (int a = 0; a < due.length; a++) {
            for (int what = 0; what < 8; what++) {
                Check.equal("area(" + a + ", " + what + ")", due[a][what], g.settler.area(a, what));
            }
        }
        Game free = new Game("land a center;land b;power p;");
        Check.equal("a center that is no home belongs to nobody", -1, free.settler.area(0, 3));
        Check.equal("it is no home", -1, free.settler.area(0, 2));
    }

    private static void areaErrors() {
        Game g = new Game(MAP);
        for (int area : new int[] {-1, 7, 16, 32, Integer.MAX_VALUE, Integer.MIN_VALUE}) {
            Check.fails("area " + area, NONE, () -> g.settler.area(area, 0));
            Check.fails("area " + area + " of what 8", NONE, () -> g.settler.area(area, 8));
        }
        for (int what : new int[] {-1, 8, Integer.MAX_VALUE, Integer.MIN_VALUE}) {
            Check.fails("what " + what, RANGE, () -> g.settler.area(0, what));
        }
    }

    private static void checkPasses(Game g, int from, int to, boolean armies, boolean fleets) {
        Check.equal("armies " + from + " to " + to, armies ? 1 : 0, g.settler.passes(from, to, false) ? 1 : 0);
        Check.equal("armies " + to + " to " + from, armies ? 1 : 0, g.settler.passes(to, from, false) ? 1 : 0);
        Check.equal("fleets " + from + " to " + to, fleets ? 1 : 0, g.settler.passes(from, to, true) ? 1 : 0);
        Check.equal("fleets " + to + " to " + from, fleets ? 1 : 0, g.settler.passes(to, from, true) ? 1 : 0);
    }

    private static void passing() {
        Game g = new Game(MAP);
        checkPasses(g, 0, 1, true, false);
        checkPasses(g, 1, 2, true, false);
        checkPasses(g, 2, 3, false, true);
        checkPasses(g, 3, 4, false, true);
        checkPasses(g, 2, 5, false, true);
        checkPasses(g, 0, 6, true, false);
        checkPasses(g, 0, 2, false, false);
        checkPasses(g, 3, 3, false, false);
        Game open = new Game("coast a;coast b;border a b;");
        checkPasses(open, 0, 1, true, true);
        for (int area : new int[] {-1, 7, Integer.MIN_VALUE, Integer.MAX_VALUE}) {
            Check.fails("passes from", NONE, () -> g.settler.passes(area, 0, false) ? 1 : 0);
            Check.fails("passes to", NONE, () -> g.settler.passes(0, area, true) ? 1 : 0);
        }
    }

    private static void distances() {
        Game g = new Game(MAP);
        int[][] armies = {{0, 1, 2, -1, -1, -1, 1}, {1, 0, 1, -1, -1, -1, 2}, {2, 1, 0, -1, -1, -1, 3},
            {-1, -1, -1, 0, -1, -1, -1}};
        int[][] fleets = {{0, -1, -1, -1, -1, -1, -1}, {-1, 0, 2, 1, 2, 3, -1}, {-1, 2, 0, 1, 2, 1, -1},
            {-1, 1, 1, 0, 1, 2, -1}};
        for (int from = 0; from < 4; from++) {
            for (int to = 0; to < 7; to++) {
                Check.equal("armies' distance " + from + " " + to, armies[from][to], g.settler.distance(from, to, false));
                Check.equal("fleets' distance " + from + " " + to, fleets[from][to], g.settler.distance(from, to, true));
            }
        }
        for (int area : new int[] {-1, 7, 99}) {
            Check.fails("distance from", NONE, () -> g.settler.distance(area, 0, false));
            Check.fails("distance to", NONE, () -> g.settler.distance(0, area, true));
            Check.fails("distance to itself", NONE, () -> g.settler.distance(area, area, true));
        }
        StringBuilder chain = new StringBuilder("land a;");
        for (char c = 'b'; c <= 'p'; c++) {
            chain.append("land ").append(c).append(";border ").append((char) (c - 1)).append(' ').append(c).append(";");
        }
        Game longest = new Game(chain.toString());
        Check.equal("the longest distance", 15, longest.settler.distance(0, 15, false));
        Check.equal("and back", 15, longest.settler.distance(15, 0, false));
    }

    private static void powerReports() {
        Game g = new Game(MAP);
        int[][] due = {{2, 2, 2, 0}, {1, 2, 1, -1}, {0, 0, 0, 0}};
        for (int p = 0; p < 3; p++) {
            for (int what = 0; what < 4; what++) {
                Check.equal("power(" + p + ", " + what + ")", due[p][what], g.settler.power(p, what));
            }
        }
        Game free = new Game("land a center;land b center;land c center;land d;power p a b c;army p a;army p d;");
        Check.equal("one more center than units", 1, free.settler.power(0, 3));
        Game full = new Game("land a center;land b center;land c;land d;power p a b;power q;army q a;army q b;");
        Check.equal("no free home", 0, full.settler.power(0, 3));
        Check.equal("nothing but units", -2, full.settler.power(1, 3));
    }

    private static void powerErrors() {
        Game g = new Game(MAP);
        for (int power : new int[] {-1, 3, 4, Integer.MIN_VALUE, Integer.MAX_VALUE}) {
            Check.fails("power " + power, NONE, () -> g.settler.power(power, 0));
            Check.fails("power " + power + " of what 4", NONE, () -> g.settler.power(power, 4));
        }
        for (int what : new int[] {-1, 4, Integer.MIN_VALUE, Integer.MAX_VALUE}) {
            Check.fails("what " + what, RANGE, () -> g.settler.power(0, what));
        }
    }
}
