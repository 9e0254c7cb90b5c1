/**
 * The edges of section 3 and of promises 17 to 20, 26 and 27: each method tests the sentence of the document
 * that stands above it.
 */
final class SettlingEdgesTest {
    private static final Class<IllegalStateException> STATE = IllegalStateException.class;

    public static void main(String[] args) {
        noMoves();
        attackAgainstHold();
        attackAgainstOpposed();
        attackAgainstPrevention();
        threeMovesToOneGoal();
        twelveUnits();
        moreThanOneMoveCuts();
        movesOfItsOwnPowerDoNotCut();
        fleetsAtEveryArea();
        everyFleetOfThePath();
        noPathNoAttack();
        opposedOfOnePower();
        opposedMovesAreDirect();
        dislodgedMover();
        contestedByOneMove();
        contestedNotWithAUnit();
        ringsOfEveryLength();
        ringsBesideEachOther();
        resultsByTheAreasBefore();
        nothingWasSettled();
        outcomesBeforeTheSeaWasClosed();
        foreseenLikeSettled();
        foreseenMovesWithTheOthersAsTheyAre();
        otherOrdersThanBefore();
        Check.end("SettlingEdgesTest");
    }

    private static Game game(String map, String orders) {
        Game g = new Game(map);
        g.tell(orders);
        return g;
    }

    private static void told(String what, Game g, String area, int... due) {
        for (int report = 0; report < due.length; report++) {
            Check.equal(what + ", result " + report + " of " + area, due[report], g.result(area, report));
        }
    }

    private static String areas(String before, int first, int count, String behind) {
        StringBuilder text = new StringBuilder();
        for (int i = first; i < first + count; i++) {
            text.append(before).append((char) ('a' + i)).append(behind);
        }
        return text.toString();
    }

    /** "settle: Returns the number of moves that succeeded": without a move there is one outcome, the number 0. */
    private static void noMoves() {
        for (String units : new String[] {"", "army p a;", "army p a;army q b;"}) {
            Game g = new Game("land a;land b;border a b;power p;power q;" + units);
            Check.equal("settle with " + units, 0, g.settler.settle());
            Check.equal("outcomes with " + units, 1, g.settler.outcomes());
            Check.isFalse("contested with " + units, g.settler.isContested(0) || g.settler.isContested(1));
        }
    }

    /** "A move should succeed if its attack is greater than ... the hold of its goal" */
    private static void attackAgainstHold() {
        for (int with = 0; with <= 4; with++) {
            for (int against = 0; against <= 4; against++) {
                String map = "land y;land z;border y z;" + areas("land ", 0, with + against, ";")
                        + areas("border z ", 0, with + against, ";") + "power p;power q;army p y;army q z;"
                        + areas("army p ", 0, with, ";") + areas("army q ", with, against, ";");
                Game g = game(map, "y to z;" + areas("", 0, with, " support y to z;")
                        + areas("", with, against, " support z;"));
                String what = with + " supports against " + against;
                boolean wins = with > against;
                Check.equal(what, wins ? 1 : 0, g.settler.settle());
                told(what, g, "y", wins ? 1 : 2, 0, 1 + with, 1 + with, wins ? 0 : 2, 0);
                told(what, g, "z", 5, wins ? 1 : 0, 1 + against, 0, 0, 0);
            }
        }
    }

    /** "greater than the strength of the move that is opposed to it" */
    private static void attackAgainstOpposed() {
        for (int with = 0; with <= 4; with++) {
            for (int against = 0; against <= 4; against++) {
                String map = "land y;land z;border y z;" + areas("land ", 0, with + against, ";")
                        + areas("border z ", 0, with, ";") + areas("border y ", with, against, ";")
                        + "power p;power q;army p y;army q z;" + areas("army p ", 0, with, ";")
                        + areas("army q ", with, against, ";");
                Game g = game(map, "y to z;z to y;" + areas("", 0, with, " support y to z;")
                        + areas("", with, against, " support z to y;"));
                String what = with + " supports, opposed by " + against;
                Check.equal(what, with == against ? 0 : 1, g.settler.settle());
                told(what, g, "y", with > against ? 1 : 2, with < against ? 1 : 0, 1 + with, 1 + with,
                        with > against ? 0 : 2, 0);
                told(what, g, "z", with < against ? 1 : 2, with > against ? 1 : 0, 1 + against, 1 + against,
                        with < against ? 0 : 2, 0);
            }
        }
    }

    /** "and greater than that with which each other move to the same goal prevents" */
    private static void attackAgainstPrevention() {
        for (int with = 0; with <= 4; with++) {
            for (int against = 0; against <= 4; against++) {
                String map = "land g;land y;land z;border y g;border z g;" + areas("land m", 0, with + against, ";")
                        + areas("border g m", 0, with + against, ";") + "power p;army p y;army p z;"
                        + areas("army p m", 0, with + against, ";");
                Game g = game(map, "y to g;z to g;" + areas("m", 0, with, " support y to g;")
                        + areas("m", with, against, " support z to g;"));
                String what = with + " supports beside " + against;
                Check.equal(what, with == against ? 0 : 1, g.settler.settle());
                told(what, g, "y", with > against ? 1 : 2, 0, 1 + with, 1 + with, with > against ? 0 : 3, 0);
                told(what, g, "z", with < against ? 1 : 2, 0, 1 + against, 1 + against, with < against ? 0 : 3, 0);
                Check.equal("contested, " + what, with == against ? 1 : 0, g.settler.isContested(0) ? 1 : 0);
            }
        }
    }

    /** "each other move": not only the first or the last of them. */
    private static void threeMovesToOneGoal() {
        int[][] supports = {{0, 1, 2}, {0, 2, 1}, {1, 0, 2}, {1, 2, 0}, {2, 0, 1}, {2, 1, 0}, {2, 2, 0}, {2, 0, 2}, {0, 2, 2},
            {1, 1, 1}, {0, 0, 0}, {1, 0, 0}, {0, 1, 0}, {0, 0, 1}};
        for (int[] own : supports) {
            int most = Math.max(own[0], Math.max(own[1], own[2]));
            int count = 0;
            StringBuilder map = new StringBuilder("land g;land x;land y;land z;border x g;border y g;border z g;");
            StringBuilder units = new StringBuilder("power p;army p x;army p y;army p z;");
            StringBuilder orders = new StringBuilder("x to g;y to g;z to g;");
            for (int i = 0; i < 3; i++) {
                map.append(areas("land m", count, own[i], ";")).append(areas("border g m", count, own[i], ";"));
                units.append(areas("army p m", count, own[i], ";"));
                orders.append(areas("m", count, own[i], " support " + "xyz".charAt(i) + " to g;"));
                count += own[i];
            }
            Game g = game(map.toString() + units, orders.toString());
            int winners = (own[0] == most ? 1 : 0) + (own[1] == most ? 1 : 0) + (own[2] == most ? 1 : 0);
            String what = own[0] + " " + own[1] + " " + own[2] + " supports";
            Check.equal(what, winners == 1 ? 1 : 0, g.settler.settle());
            for (int i = 0; i < 3; i++) {
                boolean wins = winners == 1 && own[i] == most;
                told(what, g, "" + "xyz".charAt(i), wins ? 1 : 2, 0, 1 + own[i], 1 + own[i], wins ? 0 : 3, 0);
            }
        }
    }

    /** "The strength of a move is 1 plus the number of given supports": as many as there can be. */
    private static void twelveUnits() {
        String map = "land z;" + areas("land ", 0, 11, ";") + areas("border z ", 0, 11, ";") + "power p;power q;army q z;"
                + areas("army p ", 0, 11, ";");
        Game attack = game(map, "a to z;" + areas("", 1, 10, " support a to z;"));
        Check.equal("ten supports of a move", 1, attack.settler.settle());
        told("ten supports", attack, "a", 1, 0, 11, 11, 0, 0);
        told("ten supports", attack, "k", 3, 0, 1, 0, 0, 0);
        Game hold = game(map, areas("", 0, 11, " support z;"));
        Check.equal("eleven supports of a unit", 0, hold.settler.settle());
        told("eleven supports", hold, "z", 5, 0, 12, 0, 0, 0);
        Game all = game(map, areas("", 0, 11, " to z;"));
        Check.equal("eleven moves to a unit", 0, all.settler.settle());
        Check.equal("outcomes of that", 1, all.settler.outcomes());
        told("eleven moves", all, "k", 2, 0, 1, 1, 2, 0);
        Game leaves = game(map + "land y;border y z;", areas("", 0, 11, " to z;") + "z to y;");
        Check.equal("eleven moves to where one leaves", 1, leaves.settler.settle());
        told("one leaves", leaves, "k", 2, 0, 1, 1, 3, 0);
        Check.isTrue("contested where it left", leaves.settler.isContested(0));
    }

    /** "no move with a path goes to its area that is of another power": one of several is enough. */
    private static void moreThanOneMoveCuts() {
        // x and y go to s by sea, with a convoy for the one, the other or both; s supports a unit at t.
        String coasts = "coast x;coast s;coast t;coast y;";
        String seas = "sea u;sea v;border x u;border u s;border y v;border v s;border s t;power p;power q;"
                + "army p s;army p t;army q x;army q y;fleet q u;fleet q v;";
        for (String map : new String[] {coasts + seas, "coast y;coast t;coast s;coast x;" + seas}) {
            for (int carried = 0; carried < 4; carried++) {
                String convoys = ((carried & 1) != 0 ? "u convoy x to s;" : "") + ((carried & 2) != 0 ? "v convoy y to s;" : "");
                Game g = game(map, "s support t;x to s;y to s;" + convoys);
                Check.equal("settle", 0, g.settler.settle());
                told("convoys " + carried, g, "s", carried == 0 ? 3 : 4, 0, 1, 0, 0, 0);
                told("convoys " + carried, g, "t", 5, 0, carried == 0 ? 2 : 1, 0, 0, 0);
            }
        }
    }

    /** "that is of another power and does not come from the goal" */
    private static void movesOfItsOwnPowerDoNotCut() {
        String map = "land a;land b;land c;land d;land e;border a b;border c b;border d c;border e c;"
                + "power p;power q;power r;army p a;army q b;army p c;";
        String orders = "a to b;c support a to b;";
        String[] units = {"", "army p d;", "army p d;army p e;", "army r d;", "army p d;army r e;", "army r d;army p e;"};
        for (String others : units) {
            boolean cut = others.contains("army r");
            String moves = (others.contains(" d;") ? "d to c;" : "") + (others.contains(" e;") ? "e to c;" : "");
            Game g = game(map + others, orders + moves);
            Check.equal("settle with " + others, cut ? 0 : 1, g.settler.settle());
            told(others, g, "c", cut ? 4 : 3, 0, 1, 0, 0, 0);
            Game goal = game(map + others, orders + moves + "b to c;");
            Check.equal("and a move from the goal, " + others, cut ? 0 : 1, goal.settler.settle());
            told("from the goal, " + others, goal, "c", cut ? 4 : 3, 0, 1, 0, 0, 0);
        }
    }

    /** "areas s1, ..., sn (n at least 1)": one fleet, at each area of sixteen. */
    private static void fleetsAtEveryArea() {
        for (int at = 0; at < 16; at++) {
            StringBuilder map = new StringBuilder();
            String sea = "" + (char) ('a' + at);
            for (int i = 0; i < 16; i++) {
                char name = (char) ('a' + i);
                map.append(i == at ? "sea " : "coast ").append(name).append(';');
                map.append(i == at ? "" : "border " + sea + " " + name + ";");
            }
            int from = (at + 1) % 16;
            int to = (at + 15) % 16;
            // The borders are told behind all areas.
            String text = map.toString().replaceAll("border . .;", "") + map.toString().replaceAll("(coast|sea) .;", "");
            String army = "" + (char) ('a' + from);
            String goal = "" + (char) ('a' + to);
            Game g = new Game(text + "power p;army p " + army + ";fleet p " + sea + ";");
            g.tell(army + " to " + goal + ";");
            Check.equal("no convoy", 0, g.settler.foresee(from, 5));
            g.tell(sea + " convoy " + army + " to " + goal + ";");
            Check.equal("settle with the fleet at " + at, 1, g.settler.settle());
            Check.equal("by sea", 1, g.settler.result(from, 5));
            Check.equal("where it is", 0, g.settler.area(to, 5));
        }
    }

    /** "each one borders the next one": a way of ten fleets, with each of its fleets missing. */
    private static void everyFleetOfThePath() {
        StringBuilder map = new StringBuilder("coast y;" + areas("sea ", 0, 10, ";") + "coast z;border y a;border j z;");
        for (char c = 'a'; c < 'j'; c++) {
            map.append("border ").append(c).append(' ').append((char) (c + 1)).append(';');
        }
        map.append("power p;power q;army p y;" + areas("fleet q ", 0, 10, ";"));
        String convoys = areas("", 0, 10, " convoy y to z;");
        Game all = game(map.toString(), "y to z;" + convoys);
        Check.equal("ten fleets", 1, all.settler.settle());
        told("ten fleets", all, "y", 1, 0, 1, 1, 0, 1);
        for (char c = 'a'; c <= 'j'; c++) {
            Game less = game(map.toString(), "y to z;" + convoys + c + " hold;");
            Check.equal("without " + c, 0, less.settler.settle());
            told("without " + c, less, "y", 2, 0, 1, 0, 1, 0);
        }
        // A fleet that conveys another army, or this one to another coast, is none of the path.
        Game back = game(map + "army q z;", "y to z;" + convoys + "f convoy z to y;");
        Check.equal("one conveys another army", 0, back.settler.settle());
        told("one conveys another army", back, "y", 2, 0, 1, 0, 1, 0);
        Game other = game(map + "coast x;", "y to z;" + convoys + "f convoy y to x;");
        Check.equal("one conveys to another coast", 0, other.settler.settle());
    }

    /** "The attack of a move ... is 0 if it has no path", and it prevents with 0. */
    private static void noPathNoAttack() {
        String map = "coast a;coast b;land c;sea s;border b c;border b s;border a s;power p;power q;army p a;";
        Game empty = game(map, "a to b;");
        Check.equal("to an empty area", 0, empty.settler.settle());
        told("to an empty area", empty, "a", 2, 0, 1, 0, 1, 0);
        Check.isFalse("not contested", empty.settler.isContested(1));
        Game beside = game(map + "army q c;", "a to b;c to b;");
        Check.equal("beside another move", 1, beside.settler.settle());
        told("beside another move", beside, "c", 1, 0, 1, 1, 0, 0);
        // Its strength is told although it is of no use.
        Game supported = game(map + "army q c;fleet p s;", "a to b;c support a to b;s support a to b;");
        Check.equal("supported", 0, supported.settler.settle());
        told("supported", supported, "a", 2, 0, 3, 0, 1, 0);
        told("supported", supported, "c", 3, 0, 1, 0, 0, 0);
        // Of two armies that go to each other's coast by sea only one is carried: it meets a unit that stays.
        Game swap = game(map + "army q b;fleet p s;", "a to b;b to a;s convoy a to b;");
        Check.equal("one of two is carried", 0, swap.settler.settle());
        told("one of two is carried", swap, "a", 2, 0, 1, 1, 2, 1);
        told("one of two is carried", swap, "b", 2, 0, 1, 0, 1, 0);
    }

    /** "if u is of the same power, it is 0": also where both moves are opposed, whoever supports. */
    private static void opposedOfOnePower() {
        Game g = game("land a;land b;land c;land d;border a b;border c b;border d b;power p;power q;"
                + "army p a;army p b;army q c;army p d;", "a to b;b to a;c support a to b;d support a to b;");
        Check.equal("settle", 0, g.settler.settle());
        told("opposed", g, "a", 2, 0, 3, 0, 2, 0);
        told("opposed", g, "b", 2, 0, 1, 0, 2, 0);
    }

    /** "Two moves are opposed if each goes to the area of the other one and both are direct." */
    private static void opposedMovesAreDirect() {
        String map = "coast a;coast b;sea s;land c;border a b fleet;border a s;border s b;border c b;border c a;"
                + "power p;power q;army p a;fleet q b;fleet p s;army p c;";
        // Carried, the army passes the fleet that goes the other way.
        Game sea = game(map, "a to b;b to a;s convoy a to b;");
        Check.equal("one by sea", 2, sea.settler.settle());
        Check.equal("outcomes", 2, sea.settler.outcomes());
        // Without a path the army stays, and the fleet meets a hold of 1.
        Game none = game(map, "a to b;b to a;");
        Check.equal("without a path", 0, none.settler.settle());
        told("without a path", none, "b", 2, 0, 1, 1, 2, 0);
        // Beaten by a move that is not opposed to it, it still prevents others.
        Game beaten = game(map + "land d;border d a;power r;army r d;",
                "a to b;b to a;s convoy a to b;c support a to b;d to a;");
        Check.equal("beaten by sea", 1, beaten.settler.settle());
        told("beaten by sea", beaten, "a", 1, 0, 2, 2, 0, 1);
        told("beaten by sea", beaten, "b", 2, 1, 1, 1, 3, 0);
        told("beaten by sea", beaten, "d", 2, 0, 1, 1, 3, 0);
        Check.isTrue("contested", beaten.settler.isContested(0));
    }

    /** "A unit is dislodged if a move to its area succeeds, and it has no move that succeeds." */
    private static void dislodgedMover() {
        String map = "land a;land b;land c;land d;border a b;border c b;border b d;power p;power q;"
                + "army p a;army p c;army q b;";
        Game moved = game(map, "a to b;c support a to b;b to d;");
        Check.equal("it moves away", 2, moved.settler.settle());
        told("it moves away", moved, "b", 1, 0, 1, 1, 0, 0);
        Check.equal("phase", 0, moved.settler.phase());
        Game failed = game(map + "army q d;", "a to b;c support a to b;b to d;");
        Check.equal("its move fails", 1, failed.settler.settle());
        told("its move fails", failed, "b", 2, 1, 1, 0, 2, 0);
        Check.equal("phase", 1, failed.settler.phase());
    }

    /** "An area is contested if a move with a path to it did not succeed and no unit is there then." */
    private static void contestedByOneMove() {
        // The beaten one of two opposed moves went to the area that the winner left.
        for (String winner : new String[] {"a", "b"}) {
            String loser = winner.equals("a") ? "b" : "a";
            String map = "land a;land b;land c;border a b;border c " + loser + ";power p;power q;army p " + winner
                    + ";army q " + loser + ";army p c;";
            Game g = game(map, "a to b;b to a;c support " + winner + " to " + loser + ";");
            Check.equal("settle", 1, g.settler.settle());
            Check.equal("contested a", winner.equals("a") ? 1 : 0, g.settler.isContested(0) ? 1 : 0);
            Check.equal("contested b", winner.equals("b") ? 1 : 0, g.settler.isContested(1) ? 1 : 0);
        }
        // At the first and at the last of sixteen areas.
        String ends = areas("land ", 0, 16, ";") + "border a b;border a c;border p o;border p n;power p;"
                + "army p b;army p c;army p n;army p o;";
        Game g = game(ends, "b to a;c to a;n to p;o to p;");
        Check.equal("settle", 0, g.settler.settle());
        for (int a = 0; a < 16; a++) {
            Check.equal("contested " + a, a == 0 || a == 15 ? 1 : 0, g.settler.isContested(a) ? 1 : 0);
        }
    }

    private static void contestedNotWithAUnit() {
        String map = "land a;land b;land c;land d;border a b;border c b;border d b;power p;power q;power r;"
                + "army p a;army q c;";
        Game entered = game(map + "army p d;", "a to b;c to b;d support a to b;");
        Check.equal("one of two enters", 1, entered.settler.settle());
        Check.isFalse("entered", entered.settler.isContested(1));
        Game stays = game(map + "army r b;", "a to b;c to b;");
        Check.equal("one stays", 0, stays.settler.settle());
        Check.isFalse("stayed at", stays.settler.isContested(1));
        Game nobody = game(map, "");
        nobody.settler.settle();
        Check.isFalse("nobody went there", nobody.settler.isContested(1));
    }

    /** "Of several consistent outcomes, the one with most moves that succeed counts": rings of three to twelve. */
    private static void ringsOfEveryLength() {
        for (int length = 3; length <= 12; length++) {
            StringBuilder borders = new StringBuilder();
            StringBuilder orders = new StringBuilder();
            for (int i = 0; i < length; i++) {
                String one = "" + (char) ('a' + i);
                String next = "" + (char) ('a' + (i + 1) % length);
                borders.append("border ").append(one).append(' ').append(next).append(';');
                orders.append(one).append(" to ").append(next).append(';');
            }
            String map = areas("land ", 0, 13, ";") + borders + "border a m;power p;power q;";
            Game g = game(map + areas("army p ", 0, length, ";"), orders.toString());
            Check.equal("ring of " + length, length, g.settler.settle());
            Check.equal("its outcomes", 2, g.settler.outcomes());
            if (length < 12) {
                // Another move to one of its areas stops all.
                Game stopped = game(map + areas("army p ", 0, length, ";") + "army q m;", orders + "m to a;");
                Check.equal("stopped ring of " + length, 0, stopped.settler.settle());
                Check.equal("its outcomes", 1, stopped.settler.outcomes());
            }
        }
        Game two = game("land a;land b;border a b;power p;power q;army p a;army q b;", "a to b;b to a;");
        Check.equal("two are no ring", 0, two.settler.settle());
        Check.equal("its outcomes", 1, two.settler.outcomes());
    }

    /** "Returns the number of consistent outcomes": each of the rings may move or stay. */
    private static void ringsBesideEachOther() {
        for (int rings = 0; rings <= 4; rings++) {
            StringBuilder map = new StringBuilder(areas("land ", 0, 12, ";"));
            StringBuilder orders = new StringBuilder();
            for (int i = 0; i < 3 * rings; i++) {
                String step = (char) ('a' + i) + " @ " + (char) ('a' + (i % 3 == 2 ? i - 2 : i + 1)) + ";";
                map.append("border ").append(step.replace("@ ", ""));
                orders.append(step.replace("@", "to"));
            }
            Game g = game(map + "power p;" + areas("army p ", 0, 12, ";"), orders.toString());
            Check.equal(rings + " rings", 3 * rings, g.settler.settle());
            Check.equal("outcomes of " + rings + " rings", 1 << rings, g.settler.outcomes());
        }
    }

    /** "Reports on the latest settling, by the areas where units were." */
    private static void resultsByTheAreasBefore() {
        Game g = game("land a center;land b;land c;border a b;border b c;border a c;power p a;power q;army p a;",
                "a to b;");
        g.settler.settle();
        told("where it was", g, "a", 1, 0, 1, 1, 0, 0);
        told("where it is", g, "b", 0, 0, 0, 0, 0, 0);
        g.tell("b to c;");
        told("before the next settling", g, "a", 1, 0, 1, 1, 0, 0);
        g.settler.settle();
        told("behind the next settling", g, "b", 1, 0, 1, 1, 0, 0);
        told("behind the next settling", g, "a", 0, 0, 0, 0, 0, 0);
        told("behind the next settling", g, "c", 0, 0, 0, 0, 0, 0);
    }

    /** "if nothing was settled since the map was loaded (an undone settling counts for nothing)" */
    private static void nothingWasSettled() {
        Game g = new Game("land a;land b;border a b;power p;army p a;");
        checkNothingSettled(g, "at first");
        g.settler.foresee(0, 0);
        g.settler.foreseeMove(0, 1);
        checkNothingSettled(g, "behind foresee");
        g.settler.settle();
        Check.equal("settled", 5, g.settler.result(0, 0));
        g.settler.undo();
        checkNothingSettled(g, "behind undo");
        g.settler.settle();
        g.load("land a;");
        checkNothingSettled(g, "behind load");
        g.settler.settle();
        g.refusesMap("^x;", 1);
        Check.equal("a map with an error is not loaded", 1, g.settler.outcomes());
        Check.equal("an undone one of two", 2, undoneOfTwo().settler.result(0, 0));
    }

    private static void checkNothingSettled(Game g, String when) {
        Check.fails("result " + when, STATE, () -> g.settler.result(0, 0));
        Check.fails("outcomes " + when, STATE, g.settler::outcomes);
        Check.fails("isContested " + when, STATE, () -> g.settler.isContested(0) ? 1 : 0);
    }

    private static Game undoneOfTwo() {
        Game g = game("land a;land b;land c;border a b;border b c;power p;power q;army p a;army q c;", "a to b;c to b;");
        g.settler.settle();
        Check.isTrue("contested in turn 1", g.settler.isContested(1));
        g.tell("a hold;c hold;");
        g.settler.settle();
        Check.isFalse("contested in turn 2", g.settler.isContested(1));
        g.settler.undo();
        Check.isTrue("contested in turn 1 again", g.settler.isContested(1));
        return g;
    }

    // The convoy hangs on a support that the convoyed army cuts: no outcome is consistent.
    private static final String PARADOX = "coast a;coast b;sea c;sea d;sea e;land f;land g;border a d;border b c;border b d;"
            + "border c d;border c e;border d e;border f g;power p;power q;power r;"
            + "army p a;fleet q b;fleet q c;fleet r d;fleet q e;army p f;";
    private static final String PARADOX_ORDERS =
            "a to b;b support d;c support e to d;d convoy a to b;e to d;f to g;";

    /** "the number of consistent outcomes of the latest settling (before moves by sea were said to have no path)" */
    private static void outcomesBeforeTheSeaWasClosed() {
        Game g = game(PARADOX, PARADOX_ORDERS);
        Check.equal("a direct move would succeed", 1, g.settler.foresee(5, 0));
        Check.equal("a move by sea would not", 2, g.settler.foresee(0, 0));
        Check.equal("it would have no path", 1, g.settler.foresee(0, 4));
        Check.equal("nor be one with a path", 0, g.settler.foresee(0, 5));
        Check.equal("foreseen as a move", 0, g.settler.foreseeMove(0, 1));
        Check.equal("another one foreseen", 1, g.settler.foreseeMove(5, 6));
        Check.equal("settle", 1, g.settler.settle());
        Check.equal("outcomes", 0, g.settler.outcomes());
        Check.equal("the attack of the move by sea", 0, g.settler.result(0, 3));
        Check.equal("the support that it would cut", 3, g.settler.result(1, 0));
    }

    /** "Returns what result() would tell then." */
    private static void foreseenLikeSettled() {
        String[] orders = {"", PARADOX_ORDERS, "a to b;d convoy a to b;e to c;c to e;f to g;", "b to c;c to d;d to b;e support d;",
            "c to d;e support c to d;b support d;", "a to b;d convoy a to b;b to c;c to b;"};
        for (String text : orders) {
            Game g = game(PARADOX, text);
            int[][] due = new int[7][6];
            for (int a = 0; a < 7; a++) {
                for (int what = 0; what < 6; what++) {
                    due[a][what] = g.settler.foresee(a, what);
                }
            }
            g.settler.settle();
            for (int a = 0; a < 7; a++) {
                for (int what = 0; what < 6; what++) {
                    Check.equal("result " + a + ", " + what + " of " + text, due[a][what], g.settler.result(a, what));
                }
            }
        }
    }

    /** "if it had a move to an area, all others as they are" */
    private static void foreseenMovesWithTheOthersAsTheyAre() {
        Game g = game("coast a;coast b;coast c;sea s;border a b;border b c;border a s;border s c;power p;power q;"
                + "army p a;army q b;fleet p s;army p c;", "a support c to b;s convoy a to c;c to b;b to a;");
        Check.equal("c to b with a's support, which a move from the goal does not cut", 1, g.settler.foreseeMove(2, 1));
        Check.equal("a to b itself, beside c", 0, g.settler.foreseeMove(0, 1));
        Check.equal("a by sea, which makes a ring", 1, g.settler.foreseeMove(0, 2));
        g.tell("b hold;");
        Check.equal("a by sea, where c cannot leave", 0, g.settler.foreseeMove(0, 2));
        g.tell("b to c;");
        Check.equal("b's move is met by c", 0, g.settler.foreseeMove(1, 2));
        Check.equal("c's move with the support", 1, g.settler.foreseeMove(2, 1));
        g.tell("c hold;b hold;");
        Check.equal("c's move that is not told", 1, g.settler.foreseeMove(2, 1));
        Check.equal("a's move without c", 0, g.settler.foreseeMove(0, 1));
        g.tell("b to c;c to b;");
        Check.equal("orders as they were", "a support c to b;\nb to c;\nc to b;\ns convoy a to c;\n", g.orders());
    }

    // All kinds of orders, each text with others for the same units.
    private static final String MIXED = "coast a;coast b;coast c;coast d;sea s;sea t;land e;border a b;border b c;border c d;"
            + "border a s;border b s;border c s;border s t;border d t;border b t;border a e;border b e;border c e;"
            + "power p;power q;power r;army p a;army q b;army p c;army r d;fleet q s;fleet p t;army r e;";
    private static final String HOLD = "a hold;b hold;c hold;d hold;s hold;t hold;e hold;";
    private static final String[] TEXTS = {"", "a to b;c support a to b;", "c support b;e support b;a to b;",
        "a to d;s convoy a to d;t convoy a to d;", "a to d;s convoy a to d;t hold;", "d to a;s convoy d to a;t convoy d to a;e support a;",
        "a to b;b to e;e to a;c support b to e;", "e to c;d to c;c support b;", "e to b;c support e to b;d to c;", "a to e;c support a to e;b to c;",
        "s to b;t to b;a support s to b;c support t to b;", "d to b;t convoy d to b;a support d to b;c support d to b;", "d to b;e to a;a support b;",
        "b to d;s convoy b to d;t convoy b to d;c support b to d;", "c to a;s convoy c to a;a to e;", "e to a;b to a;c to e;d to c;",
        // These supports belong to nothing.
        "c support a to b;e support b;b to e;", "a support e to b;c support e to b;s support b;b to c;"};

    /** "---- what would be; nothing changes": what was told and foreseen before counts for nothing. */
    private static void otherOrdersThanBefore() {
        for (String map : new String[] {MIXED, Game.withAreasBefore(MIXED)}) {
            int first = map.equals(MIXED) ? 0 : 9;
            for (String before : TEXTS) {
                for (String text : TEXTS) {
                    Game g = game(map, before);
                    g.settler.foresee(first, 0);
                    g.tell(HOLD + text);
                    String due = foreseen(game(map, text).settler, first);
                    String what = text + " behind " + before;
                    Check.equal("foreseen with " + what, due, foreseen(g.settler, first));
                    g.settler.settle();
                    Check.equal("settled with " + what, due, settled(g.settler, first));
                }
            }
        }
    }

    private static String foreseen(OrderSettler x, int first) {
        StringBuilder all = new StringBuilder();
        for (int a = first; a < first + 7; a++) {
            for (int what = 0; what < 6; what++) {
                all.append(x.foresee(a, what));
            }
        }
        return all.toString();
    }

    private static String settled(OrderSettler x, int first) {
        StringBuilder all = new StringBuilder();
        for (int a = first; a < first + 7; a++) {
            for (int what = 0; what < 6; what++) {
                all.append(x.result(a, what));
            }
        }
        return all.toString();
    }
}
