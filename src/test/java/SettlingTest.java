import java.util.NoSuchElementException;

/** Promises 17 to 20: orders are settled, and what came of them is told. */
final class SettlingTest {
    // Inland areas: all of a, b, c and d border each other, but c and e do not, and a and e do not.
    private static final String LAND = "land a;land b;land c;land d;land e;"
            + "border a b;border a c;border a d;border b c;border b d;border c d;border d e;border b e;"
            + "power p;power q;power r;";

    /** Whether the areas of a game are the last ones of sixteen. */
    private static boolean last = false;

    public static void main(String[] args) {
        everyCase();
        last = true;
        everyCase();
        last = false;
        errors();
        latestSettling();
        Check.end("SettlingTest");
    }

    private static void everyCase() {
        emptyGoal();
        bounce();
        supportedMove();
        heldBySupport();
        supportsCut();
        supportsNotCut();
        supportsThatBelongToNothing();
        dislodgedSupporter();
        opposedMoves();
        opposedWithSupport();
        opposedDoesNotPrevent();
        opposedPrevents();
        manySupports();
        ring();
        brokenRing();
        chain();
        ownUnit();
        supportsOfTheDefender();
        prevented();
        failedMoveHolds();
        bySea();
        farBySea();
        longWay();
        brokenConvoy();
        noConvoy();
        otherWayRound();
        directAlthoughConvoyed();
        exchangeBySea();
        bySeaAgainstOpposite();
        paradox();
        mostMovesCount();
        moreSupportsCount();
        moreSupportsThanTheOther();
        greatestNumberAmongEquals();
        contestedAreas();
    }

    /** A game with units, each told as its power, kind and area: "pAa" is p's army at a. */
    private static Game game(String map, String units, String orders) {
        StringBuilder text = new StringBuilder(last ? Game.withAreasBefore(map) : map);
        for (String unit : units.split(" ")) {
            text.append(unit.charAt(1) == 'A' ? "army " : "fleet ").append(unit.charAt(0)).append(' ')
                    .append(unit.charAt(2)).append(";");
        }
        Game g = new Game(text.toString());
        g.tell(orders);
        return g;
    }

    private static boolean isContested(Game g, String area) {
        return g.settler.isContested(g.at(area));
    }

    private static void settles(Game g, int moves, int outcomes) {
        Check.equal("settle()", moves, g.settler.settle());
        Check.equal("outcomes()", outcomes, g.settler.outcomes());
    }

    private static void told(Game g, String area, int... due) {
        for (int what = 0; what < 6; what++) {
            Check.equal("result " + what + " of " + area, due[what], g.result(area, what));
        }
    }

    private static void emptyGoal() {
        Game g = game(LAND, "pAa qAe", "a to b;");
        settles(g, 1, 1);
        told(g, "a", 1, 0, 1, 1, 0, 0);
        told(g, "b", 0, 0, 0, 0, 0, 0);
        told(g, "e", 5, 0, 1, 0, 0, 0);
        Check.equal("units", "p A b\nq A e\n", g.units());
        Check.equal("phase()", 0, g.settler.phase());
        Check.equal("turn()", 2, g.settler.turn());
    }

    private static void bounce() {
        Game g = game(LAND, "pAa qAc", "a to b;c to b;");
        settles(g, 0, 1);
        told(g, "a", 2, 0, 1, 1, 3, 0);
        told(g, "c", 2, 0, 1, 1, 3, 0);
        told(g, "b", 0, 0, 0, 0, 0, 0);
        Check.isTrue("contested", isContested(g, "b"));
        Check.equal("units", "p A a\nq A c\n", g.units());
        // Units of one power are in each other's way as well.
        settles(game(LAND, "pAa pAc", "a to b;c to b;"), 0, 1);
    }

    private static void supportedMove() {
        Game g = game(LAND, "pAa pAc qAb", "a to b;c support a to b;");
        settles(g, 1, 1);
        told(g, "a", 1, 0, 2, 2, 0, 0);
        told(g, "b", 5, 1, 1, 0, 0, 0);
        told(g, "c", 3, 0, 1, 0, 0, 0);
        Check.equal("phase()", 1, g.settler.phase());
        Check.isFalse("contested", isContested(g, "b"));
    }

    private static void heldBySupport() {
        Game g = game(LAND, "pAa pAc qAb qAd", "a to b;c support a to b;d support b;");
        settles(g, 0, 1);
        told(g, "a", 2, 0, 2, 2, 2, 0);
        told(g, "b", 5, 0, 2, 0, 0, 0);
        told(g, "d", 3, 0, 1, 0, 0, 0);
        Check.isFalse("no area is contested where a unit is", isContested(g, "b"));
        // Supports and convoys hold with the supports for them, too.
        Game mutual = game(LAND, "qAb qAd pAa pAc", "b support d;d support b;a to b;c support a to b;");
        settles(mutual, 0, 1);
        told(mutual, "b", 4, 0, 2, 0, 0, 0);
        told(mutual, "d", 3, 0, 1, 0, 0, 0);
    }

    private static void supportsCut() {
        Game g = game(LAND, "pAa pAc qAb qAd", "a to b;c support a to b;d to c;");
        settles(g, 0, 1);
        told(g, "a", 2, 0, 1, 1, 2, 0);
        told(g, "c", 4, 0, 1, 0, 0, 0);
        told(g, "d", 2, 0, 1, 1, 2, 0);
        // A support of a unit that stays is cut likewise.
        Game stay = game(LAND, "pAa pAc qAb qAd rAe", "a to b;c support a to b;d support b;e to d;");
        settles(stay, 1, 1);
        told(stay, "d", 4, 0, 1, 0, 0, 0);
        told(stay, "b", 5, 1, 1, 0, 0, 0);
    }

    private static void supportsNotCut() {
        // By a move from the goal of the supported move.
        Game goal = game(LAND, "pAa pAc qAb", "a to b;c support a to b;b to c;");
        settles(goal, 1, 1);
        told(goal, "c", 3, 0, 1, 0, 0, 0);
        told(goal, "b", 2, 1, 1, 1, 2, 0);
        // By a move of the supporter's own power.
        Game own = game(LAND, "pAa pAc qAb pAd", "a to b;c support a to b;d to c;");
        settles(own, 1, 1);
        told(own, "c", 3, 0, 1, 0, 0, 0);
        told(own, "d", 2, 0, 1, 0, 2, 0);
        // A unit that stays is supported against the move from it: it has a move then.
        Game from = game(LAND, "pAa qAb", "a support b;b to a;");
        settles(from, 0, 1);
        told(from, "a", 4, 0, 1, 0, 0, 0);
    }

    private static void supportsThatBelongToNothing() {
        Game g = game(LAND, "pAa pAb pAc pAd qAe", "a support b;b to c;c support d to b;d hold;e support d to b;");
        settles(g, 0, 1);
        told(g, "a", 4, 0, 1, 0, 0, 0);
        told(g, "c", 4, 0, 1, 0, 0, 0);
        told(g, "e", 4, 0, 1, 0, 0, 0);
        told(g, "d", 5, 0, 1, 0, 0, 0);
        told(g, "b", 2, 0, 1, 0, 2, 0);
        // The support of a move to another area than that of the move.
        Game other = game(LAND, "pAa pAb qAc", "a to d;b support a to c;");
        settles(other, 1, 1);
        told(other, "b", 4, 0, 1, 0, 0, 0);
        told(other, "a", 1, 0, 1, 1, 0, 0);
    }

    private static void dislodgedSupporter() {
        // The move from the goal does not cut the support, but it dislodges the supporter.
        Game g = game(LAND, "pAa pAc qAb qAd", "a to b;c support a to b;b to c;d support b to c;");
        settles(g, 2, 1);
        told(g, "c", 4, 1, 1, 0, 0, 0);
        told(g, "b", 1, 0, 2, 2, 0, 0);
        // Where the unit has left, the move needs no support.
        told(g, "a", 1, 0, 1, 1, 0, 0);
    }

    private static void opposedMoves() {
        Game g = game(LAND, "pAa qAb", "a to b;b to a;");
        settles(g, 0, 1);
        told(g, "a", 2, 0, 1, 1, 2, 0);
        told(g, "b", 2, 0, 1, 1, 2, 0);
        // Not even units of one power can exchange their places.
        Game own = game(LAND, "pAa pAb", "a to b;b to a;");
        settles(own, 0, 1);
        told(own, "a", 2, 0, 1, 0, 2, 0);
    }

    private static void opposedWithSupport() {
        Game g = game(LAND, "pAa pAc qAb", "a to b;b to a;c support a to b;");
        settles(g, 1, 1);
        told(g, "a", 1, 0, 2, 2, 0, 0);
        told(g, "b", 2, 1, 1, 1, 2, 0);
        Check.equal("the dislodged unit", 1, g.settler.area(g.at("b"), 6));
        Game equal = game(LAND, "pAa pAc qAb qAd", "a to b;b to a;c support a to b;d support b to a;");
        settles(equal, 0, 1);
        told(equal, "a", 2, 0, 2, 2, 2, 0);
        told(equal, "b", 2, 0, 2, 2, 2, 0);
    }

    /** A move that is beaten by the opposed one does not prevent others from its goal. */
    private static void opposedDoesNotPrevent() {
        Game g = game(LAND, "pAa pAc qAb rAd", "a to b;c support a to b;b to a;d to a;");
        settles(g, 2, 1);
        told(g, "a", 1, 0, 2, 2, 0, 0);
        told(g, "b", 2, 1, 1, 1, 2, 0);
        told(g, "d", 1, 0, 1, 1, 0, 0);
        Check.equal("units", "r A a\np A b\np A c\n", g.units());
        // Without the support it does prevent.
        Game two = game(LAND, "pAa qAb rAd", "a to b;b to a;d to a;");
        settles(two, 0, 1);
        told(two, "d", 2, 0, 1, 1, 2, 0);
    }

    /** Of two opposed moves that hold each other up each still prevents others with its strength. */
    private static void opposedPrevents() {
        String map = "land a;land b;land c;land d;land e;land f;border a b;border c b;border d a;border e a;border f a;"
                + "power p;power q;power r;";
        String units = "pAa qAb pAc rAd rAe qAf";
        Game g = game(map, units, "a to b;b to a;c support a to b;f support b to a;d to a;e support d to a;");
        settles(g, 0, 1);
        told(g, "a", 2, 0, 2, 2, 2, 0);
        told(g, "b", 2, 0, 2, 2, 2, 0);
        told(g, "d", 2, 0, 2, 2, 3, 0);
        Game less = game(map, units, "a to b;b to a;c support a to b;d to a;e support d to a;");
        settles(less, 2, 1);
        told(less, "d", 1, 0, 2, 2, 0, 0);
    }

    private static void manySupports() {
        Game g = game(LAND, "pAa pAc qAd rAb", "a to b;c support a to b;d support a to b;");
        settles(g, 1, 1);
        told(g, "a", 1, 0, 3, 3, 0, 0);
        Game hold = game(LAND, "pAa pAc qAd rAb", "c support b;d support b;a support b;");
        settles(hold, 0, 1);
        told(hold, "b", 5, 0, 4, 0, 0, 0);
        // Of two moves against a supporter the one that comes from the goal cuts nothing.
        Game cut = game(LAND, "pAc pAa qAb rAd", "a to b;c support a to b;b to c;d to c;");
        settles(cut, 0, 1);
        told(cut, "c", 4, 0, 1, 0, 0, 0);
    }

    private static void ring() {
        Game g = game(LAND, "pAa qAb rAc", "a to b;b to c;c to a;");
        settles(g, 3, 2);
        told(g, "a", 1, 0, 1, 1, 0, 0);
        told(g, "b", 1, 0, 1, 1, 0, 0);
        told(g, "c", 1, 0, 1, 1, 0, 0);
        Check.equal("units", "r A a\np A b\nq A c\n", g.units());
        settles(game(LAND, "pAa pAb pAc", "a to b;b to c;c to a;"), 3, 2);
    }

    private static void brokenRing() {
        Game g = game(LAND, "pAa qAb rAc qAd", "a to b;b to c;c to a;d to a;");
        settles(g, 0, 1);
        told(g, "c", 2, 0, 1, 1, 2, 0);
        told(g, "b", 2, 0, 1, 1, 2, 0);
        told(g, "d", 2, 0, 1, 1, 2, 0);
        Game won = game(LAND, "pAa qAb rAc qAd qAe", "a to b;b to c;c to d;d to a;e support c to d;");
        settles(won, 4, 2);
        told(won, "c", 1, 0, 2, 2, 0, 0);
    }

    private static void chain() {
        Game g = game(LAND, "pAa pAb qAd", "a to b;b to d;d to e;");
        settles(g, 3, 1);
        Check.equal("units", "p A b\np A d\nq A e\n", g.units());
        Game stuck = game(LAND, "pAa pAb qAd", "a to b;b to d;");
        settles(stuck, 0, 1);
        told(stuck, "a", 2, 0, 1, 0, 2, 0);
        told(stuck, "b", 2, 0, 1, 1, 2, 0);
    }

    private static void ownUnit() {
        Game g = game(LAND, "pAa pAb pAc", "a to b;c support a to b;");
        settles(g, 0, 1);
        told(g, "a", 2, 0, 2, 0, 2, 0);
        told(g, "b", 5, 0, 1, 0, 0, 0);
    }

    /** The supports of the power of the unit that would be dislodged do not attack it. */
    private static void supportsOfTheDefender() {
        Game g = game(LAND, "pAa qAb qAc", "a to b;c support a to b;");
        settles(g, 0, 1);
        told(g, "a", 2, 0, 2, 1, 2, 0);
        told(g, "c", 3, 0, 1, 0, 0, 0);
        // But they prevent others.
        Game prevents = game(LAND, "pAa qAb qAc rAd rAe", "a to b;c support a to b;d to b;e support d to b;");
        settles(prevents, 0, 1);
        told(prevents, "a", 2, 0, 2, 1, 2, 0);
        told(prevents, "d", 2, 0, 2, 2, 3, 0);
        // And they count when the unit leaves.
        Game leaves = game(LAND, "pAa qAb qAc rAd", "a to b;b to e;c support a to b;d to b;");
        settles(leaves, 2, 1);
        told(leaves, "a", 1, 0, 2, 2, 0, 0);
        told(leaves, "d", 2, 0, 1, 1, 3, 0);
    }

    private static void prevented() {
        Game g = game(LAND, "pAa pAc qAb rAd rAe", "a to b;c support a to b;d to b;e support d to b;");
        settles(g, 0, 1);
        told(g, "a", 2, 0, 2, 2, 3, 0);
        told(g, "d", 2, 0, 2, 2, 3, 0);
        told(g, "b", 5, 0, 1, 0, 0, 0);
        Game less = game(LAND, "pAa pAc rAd", "a to b;c support a to b;d to b;");
        settles(less, 1, 1);
        told(less, "d", 2, 0, 1, 1, 3, 0);
        told(less, "a", 1, 0, 2, 2, 0, 0);
    }

    /** A unit whose move fails holds with 1, whatever supports are told for it. */
    private static void failedMoveHolds() {
        Game g = game(LAND, "qAb qAd pAa pAc rAe", "b to e;d support b;a to b;c support a to b;");
        settles(g, 1, 1);
        told(g, "b", 2, 1, 1, 1, 2, 0);
        told(g, "d", 4, 0, 1, 0, 0, 0);
        told(g, "a", 1, 0, 2, 2, 0, 0);
    }

    // Coasts a, b, c, d; seas s, t, u; a-s-t-b, a-u-b; c at s and t; d at u.
    private static final String SEA = "coast a;coast b;coast c;coast d;sea s;sea t;sea u;"
            + "border a s;border s t;border t b;border a u;border u b;border c s;border c t;border d u;border a b fleet;"
            + "border c d;border c a;"
            + "power p;power q;power r;";

    private static void bySea() {
        Game g = game(SEA, "pAa pFu", "a to b;u convoy a to b;");
        settles(g, 1, 1);
        told(g, "a", 1, 0, 1, 1, 0, 1);
        told(g, "u", 5, 0, 1, 0, 0, 0);
        Check.equal("units", "p A b\np F u\n", g.units());
        // The fleet of another power carries as well.
        settles(game(SEA, "pAa qFu", "a to b;u convoy a to b;"), 1, 1);
        // A move by sea dislodges, and is prevented.
        Game won = game(SEA, "pAa pFu pFt qAb", "a to b;u convoy a to b;t support a to b;");
        settles(won, 1, 1);
        told(won, "a", 1, 0, 2, 2, 0, 1);
        told(won, "b", 5, 1, 1, 0, 0, 0);
        Game met = game(SEA, "pAa pFu qFt", "a to b;u convoy a to b;t to b;");
        settles(met, 0, 1);
        told(met, "a", 2, 0, 1, 1, 3, 1);
        Check.isTrue("contested by a move by sea", isContested(met, "b"));
    }

    private static void farBySea() {
        Game g = game(SEA, "pAa pFs qFt", "a to b;s convoy a to b;t convoy a to b;");
        settles(g, 1, 1);
        told(g, "a", 1, 0, 1, 1, 0, 1);
        // Both fleets are needed, with orders for this very move.
        for (String orders : new String[] {"a to b;s convoy a to b;", "a to b;t convoy a to b;",
            "a to b;s convoy a to b;t convoy a to d;", "a to b;s convoy a to b;t convoy a to c;"}) {
            Game less = game(SEA, "pAa pFs qFt", orders);
            settles(less, 0, 1);
            told(less, "a", 2, 0, 1, 0, 1, 0);
            Check.isFalse("not contested without a path", isContested(less, "b"));
        }
    }

    /** A long way over seas that are told before the coasts and after them. */
    private static void longWay() {
        String borders = "border a s;border s t;border t u;border u v;border v b;power p;";
        String orders = "a to b;s convoy a to b;t convoy a to b;u convoy a to b;v convoy a to b;";
        for (String areas : new String[] {"sea t;sea s;coast a;coast b;sea v;sea u;", "sea s;sea t;sea u;sea v;coast a;coast b;",
            "coast b;sea v;sea u;sea t;sea s;coast a;", "sea v;sea u;sea t;coast b;coast a;sea s;"}) {
            Game g = game(areas + borders, "pAa pFs pFt pFu pFv", orders);
            settles(g, 1, 1);
            told(g, "a", 1, 0, 1, 1, 0, 1);
            Game less = game(areas + borders, "pAa pFs pFt pFv", orders.replace("u convoy a to b;", ""));
            settles(less, 0, 1);
            told(less, "a", 2, 0, 1, 0, 1, 0);
        }
    }

    private static void brokenConvoy() {
        Game g = game(SEA, "pAa pFs pFt qFc qFu qAd", "a to b;s convoy a to b;t convoy a to b;c to s;d hold;");
        settles(g, 1, 1);
        told(g, "s", 5, 0, 1, 0, 0, 0);
        Game broken = game("coast a;coast b;coast c;sea s;sea t;border a s;border s b;border c s;border t s;border t c;"
                + "power p;power q;power r;", "pAa pFs qFc qFt", "a to b;s convoy a to b;c to s;t support c to s;");
        settles(broken, 1, 1);
        told(broken, "a", 2, 0, 1, 0, 1, 0);
        told(broken, "s", 5, 1, 1, 0, 0, 0);
        told(broken, "c", 1, 0, 2, 2, 0, 0);
        Check.isFalse("not contested without a path", isContested(broken, "b"));
    }

    private static void noConvoy() {
        Game g = game(SEA, "pAa pFu rAb pFt", "a to b;t support b;u hold;");
        settles(g, 0, 1);
        told(g, "a", 2, 0, 1, 0, 1, 0);
        told(g, "b", 5, 0, 2, 0, 0, 0);
        // A move without a path neither cuts nor prevents.
        Game cut = game(SEA, "pAa rFb rFt qFu", "a to b;b support t to u;t hold;");
        settles(cut, 0, 1);
        Game other = game(SEA, "pAa rFb rFs rFt", "a to b;b support t;s to a;");
        settles(other, 0, 1);
        told(other, "b", 3, 0, 1, 0, 0, 0);
        told(other, "t", 5, 0, 2, 0, 0, 0);
        told(other, "s", 2, 0, 1, 1, 2, 0);
        Game prevents = game(SEA, "pAa qFt", "a to b;t to b;");
        settles(prevents, 1, 1);
        told(prevents, "t", 1, 0, 1, 1, 0, 0);
    }

    /** One of two ways is enough. */
    private static void otherWayRound() {
        Game g = game(SEA, "pAa pFs pFt pFu qFd qFb",
                "a to c;s hold;t hold;u hold;d to u;b support d to u;");
        settles(g, 2, 1);
        Game two = game(SEA, "pAa pFs pFt pFu qFd qFb",
                "a to b;s convoy a to b;t convoy a to b;u convoy a to b;d to u;b support d to u;");
        settles(two, 0, 1);
        told(two, "b", 4, 0, 1, 0, 0, 0);
        told(two, "a", 2, 0, 1, 1, 2, 1);
        told(two, "u", 5, 0, 1, 0, 0, 0);
    }

    /** A direct move has no need of its convoy and is none by sea. */
    private static void directAlthoughConvoyed() {
        Game g = game(SEA, "pAa pFs", "a to c;s convoy a to c;");
        settles(g, 1, 1);
        told(g, "a", 1, 0, 1, 1, 0, 0);
    }

    /** A move by sea and the one that it meets are not opposed. */
    private static void exchangeBySea() {
        Game g = game(SEA, "pAa pFu qFb", "a to b;u convoy a to b;b to a;");
        settles(g, 2, 2);
        told(g, "a", 1, 0, 1, 1, 0, 1);
        told(g, "b", 1, 0, 1, 1, 0, 0);
        Check.equal("units", "q F a\np A b\np F u\n", g.units());
    }

    private static void bySeaAgainstOpposite() {
        // Two armies exchange their places on two ways.
        Game g = game(SEA, "pAa pFu qAb qFs qFt", "a to b;u convoy a to b;b to a;s convoy b to a;t convoy b to a;");
        settles(g, 2, 2);
        told(g, "b", 1, 0, 1, 1, 0, 1);
    }

    /** No outcome is consistent: the support for the fleet is cut only if the fleet is not dislodged. */
    private static void paradox() {
        Game g = game("coast a;coast b;sea c;sea d;sea e;border a d;border b c;border b d;border c d;border c e;border d e;"
                + "power p;power q;power r;", "pAa qFb qFc rFd qFe",
                "a to b;b support d;c support e to d;d convoy a to b;e to d;");
        settles(g, 0, 0);
        told(g, "a", 2, 0, 1, 0, 1, 0);
        told(g, "b", 3, 0, 1, 0, 0, 0);
        told(g, "c", 3, 0, 1, 0, 0, 0);
        told(g, "d", 5, 0, 2, 0, 0, 0);
        told(g, "e", 2, 0, 2, 2, 2, 0);
        Check.isFalse("not contested without a path", isContested(g, "b"));
        // All moves by sea have no path then, also one that has nothing to do with it.
        Game all = game("coast a;coast b;sea c;sea d;sea e;border a d;border b c;border b d;border c d;border c e;border d e;"
                + "coast f;coast g;sea h;border f h;border g h;power p;power q;power r;", "pAa qFb qFc rFd qFe pAf pFh",
                "a to b;b support d;c support e to d;d convoy a to b;e to d;f to g;h convoy f to g;");
        settles(all, 0, 0);
        told(all, "f", 2, 0, 1, 0, 1, 0);
        // In another turn they have theirs again.
        all.settler.undo();
        all.tell("b hold;");
        settles(all, 2, 1);
        told(all, "f", 1, 0, 1, 1, 0, 1);
        // The other moves are settled without them.
        Game direct = game("coast a;coast b;sea c;sea d;sea e;border a d;border b c;border b d;border c d;border c e;border d e;"
                + "land f;land g;border f g;power p;power q;power r;", "pAa qFb qFc rFd qFe pAf",
                "a to b;b support d;c support e to d;d convoy a to b;e to d;f to g;");
        settles(direct, 1, 0);
        told(direct, "f", 1, 0, 1, 1, 0, 0);
        told(direct, "a", 2, 0, 1, 0, 1, 0);
    }

    private static void mostMovesCount() {
        Game g = game("coast a;coast b;coast c;coast d;sea e;sea f;sea g;border a b;border a c;border a e;border a f;"
                + "border a g;border b c;border b d;border b e;border b f;border b g;border c d;border c f;border c g;"
                + "border d e;border d f;border e f;border e g;border f g;power p;power q;power r;",
                "qFa pAc rAd pFe rFf pFg",
                "a support g to f;c to d;d to a;e support d to a;f convoy d to a;g to f;");
        settles(g, 2, 2);
        told(g, "c", 1, 0, 1, 1, 0, 0);
        told(g, "d", 1, 0, 2, 2, 0, 1);
        told(g, "g", 2, 0, 1, 1, 2, 0);
    }

    private static void moreSupportsCount() {
        Game g = game("coast a;coast b;coast c;coast d;sea e;border a c fleet;border a d fleet;border a e;"
                + "border b c fleet;border b d fleet;border b e;border c d fleet;border d e;power p;power q;power r;",
                "rFa pFb rFc qAd qFe", "a to e;b support a to e;c support d to b;d to b;e convoy d to b;");
        settles(g, 1, 2);
        told(g, "a", 1, 0, 2, 2, 0, 0);
        told(g, "b", 3, 0, 1, 0, 0, 0);
        told(g, "c", 3, 0, 1, 0, 0, 0);
        told(g, "d", 2, 0, 2, 0, 1, 0);
        told(g, "e", 5, 1, 1, 0, 0, 0);
    }

    private static void moreSupportsThanTheOther() {
        Game g = game("coast a;coast b;sea c;sea d;sea e;border a b fleet;border a c;border a e;border b c;border b d;"
                + "border b e;border c d;border d e;power p;power q;power r;", "pFa rAb qFc pFd qFe",
                "a support d to c;b to a;c convoy b to a;d to c;e support b to a;");
        settles(g, 1, 2);
        told(g, "b", 2, 0, 2, 0, 1, 0);
        told(g, "d", 1, 0, 2, 2, 0, 0);
        told(g, "a", 3, 0, 1, 0, 0, 0);
        told(g, "c", 5, 1, 1, 0, 0, 0);
        told(g, "e", 3, 0, 1, 0, 0, 0);
    }

    /** Of two convoys each hangs on the other one's end: the outcomes have equal moves and supports. */
    private static void greatestNumberAmongEquals() {
        String borders = "border a f;border f b;border c f;border d f;border g i;border i h;border j i;border k i;"
                + "border b i;border h f;power p;power q;power r;power s;";
        String units = "pAa qFb sFc sFd rFf pAg qFh rFi sFj sFk";
        String orders = "a to b;f convoy a to b;b support i;c to f;d support c to f;"
                + "g to h;i convoy g to h;h support f;j to i;k support j to i;";
        String areas = "coast a;coast b;sea c;sea d;sea f;coast g;coast h;sea i;sea j;sea k;";
        Game g = game(areas + borders, units, orders);
        settles(g, 1, 2);
        told(g, "j", 1, 0, 2, 2, 0, 0);
        told(g, "i", 5, 1, 1, 0, 0, 0);
        told(g, "c", 2, 0, 2, 2, 2, 0);
        told(g, "a", 2, 0, 1, 1, 2, 1);
        told(g, "g", 2, 0, 1, 0, 1, 0);
        // The same with the areas told the other way round.
        String back = "sea k;sea j;sea i;coast h;coast g;sea f;sea d;sea c;coast b;coast a;";
        Game other = game(back + borders, units, orders);
        settles(other, 1, 2);
        told(other, "c", 1, 0, 2, 2, 0, 0);
        told(other, "j", 2, 0, 2, 2, 2, 0);
    }

    private static void contestedAreas() {
        // An area that a unit leaves is contested if others meet there.
        Game g = game(LAND, "pAa qAb rAc", "b to e;a to b;c to b;");
        settles(g, 1, 1);
        Check.isTrue("left and contested", isContested(g, "b"));
        Check.isFalse("entered", isContested(g, "e"));
        Check.isFalse("stayed at", isContested(g, "a"));
        g.settler.settle();
        Check.isFalse("not contested behind the next settling", isContested(g, "b"));
        Game two = game("land a;land b;land c;land d;land e;border a b;border b c;border c d;border d e;border e a;"
                + "border c e;power p;", "pAa pAb pAd", "a to e;d to e;b hold;");
        settles(two, 0, 1);
        Check.isTrue("one", isContested(two, "e"));
        Game both = game("land a;land b;land c;land d;land e;land f;border a b;border c b;border d e;border f e;power p;",
                "pAa pAc pAd pAf", "a to b;c to b;d to e;f to e;");
        settles(both, 0, 1);
        Check.isTrue("one of two", isContested(both, "b"));
        Check.isTrue("the other one", isContested(both, "e"));
    }

    private static void errors() {
        Game g = new Game(LAND + "army p a;");
        Check.fails("result of nothing", IllegalStateException.class, () -> g.settler.result(0, 0));
        Check.fails("outcomes of nothing", IllegalStateException.class, g.settler::outcomes);
        Check.fails("isContested of nothing", IllegalStateException.class, () -> g.settler.isContested(0) ? 1 : 0);
        Check.fails("no area", NoSuchElementException.class, () -> g.settler.result(5, 6));
        Check.fails("no report", IllegalArgumentException.class, () -> g.settler.result(4, 6));
        Check.fails("no area and nothing settled", NoSuchElementException.class,
                () -> g.settler.isContested(5) ? 1 : 0);
        g.settler.settle();
        for (int what : new int[] {-1, 6, Integer.MIN_VALUE, Integer.MAX_VALUE}) {
            Check.fails("what " + what, IllegalArgumentException.class, () -> g.settler.result(0, what));
        }
        for (int area : new int[] {-1, 5, 16, Integer.MIN_VALUE, Integer.MAX_VALUE}) {
            Check.fails("area " + area, NoSuchElementException.class, () -> g.settler.result(area, 0));
            Check.fails("isContested " + area, NoSuchElementException.class, () -> g.settler.isContested(area) ? 1 : 0);
        }
        g.settler.undo();
        Check.fails("result of an undone settling", IllegalStateException.class, () -> g.settler.result(0, 0));
    }

    private static void latestSettling() {
        Game g = game(LAND, "pAa", "a to b;");
        g.settler.settle();
        told(g, "a", 1, 0, 1, 1, 0, 0);
        g.tell("b to c;");
        told(g, "a", 1, 0, 1, 1, 0, 0);
        g.settler.settle();
        told(g, "a", 0, 0, 0, 0, 0, 0);
        told(g, "b", 1, 0, 1, 1, 0, 0);
        g.settler.undo();
        told(g, "a", 1, 0, 1, 1, 0, 0);
    }
}
