import java.util.ArrayList;
import java.util.List;
import java.util.NoSuchElementException;

/**
 * "If several exceptions apply to a call, the one that is listed first in its description is thrown. A call that
 * throws changes nothing, unless its description says otherwise."
 */
final class RefusedCallsTest {
    private static final Class<NoSuchElementException> NONE = NoSuchElementException.class;
    private static final Class<IllegalArgumentException> RANGE = IllegalArgumentException.class;
    private static final Class<IllegalStateException> STATE = IllegalStateException.class;
    private static final Class<IndexOutOfBoundsException> INDEX = IndexOutOfBoundsException.class;

    /** A call of an OrderSettler. */
    private interface Call {
        long on(OrderSettler x);
    }

    private static int calls = 0;

    public static void main(String[] args) {
        inEveryPhase();
        inOrders();
        inRetreats();
        inBuilds();
        onAnEmptyMap();
        textsWithErrors();
        namesOfNothing();
        fullInput();
        if (calls < 150) {
            Check.complain("only " + calls + " calls were refused");
        }
        Check.end("RefusedCallsTest");
    }

    // ---- the games: each has a settling behind it, something told, an error and an output

    private static Game orders() {
        Game g = new Game("coast a center;coast b;sea c;land d;border a b;border b c;border a c;border a d;border b d;"
                + "power p a;power q;army p a;army q d;fleet p c;");
        g.tell("a to b;d to b;");
        g.settler.settle();
        g.tell("a to b;c support a to b;d hold;");
        return withErrorAndOutput(g);
    }

    private static Game retreats() {
        Game g = RetreatsTest.dislodged();
        g.tell("b to d;");
        return withErrorAndOutput(g);
    }

    private static Game builds() {
        Game g = BuildsTest.building();
        g.tell("build a army;");
        return withErrorAndOutput(g);
    }

    private static Game withErrorAndOutput(Game g) {
        g.refuses(" ^?", 1);
        g.settler.writeUnits();
        return g;
    }

    private static Game game(int phase) {
        return phase == 0 ? orders() : phase == 1 ? retreats() : phase == 2 ? builds() : withErrorAndOutput(new Game());
    }

    // ---- what is compared

    private static void add(List<String> answers, Check.Call call) {
        answers.add(Check.outcomeOf(call));
    }

    /** All that a game tells of itself, but for the length of its input. */
    private static List<String> answersOf(OrderSettler x) {
        List<String> answers = new ArrayList<>();
        add(answers, x::errorCode);
        add(answers, x::errorPosition);
        add(answers, x::phase);
        add(answers, x::turn);
        add(answers, x::undoCount);
        add(answers, x::outcomes);
        add(answers, x::leader);
        add(answers, x::unevennessBits);
        for (int i = 0; i < 20; i++) {
            int index = i;
            add(answers, () -> x.outputByte(index));
        }
        for (int i = 0; i < x.areas(); i++) {
            addArea(answers, x, i);
        }
        for (int i = 0; i < x.powers(); i++) {
            int power = i;
            add(answers, () -> x.power(power, 0));
            add(answers, () -> x.power(power, 1));
            add(answers, () -> x.power(power, 3));
        }
        return answers;
    }

    private static void addArea(List<String> answers, OrderSettler x, int area) {
        for (int what = 3; what < 8; what++) {
            int report = what;
            add(answers, () -> x.area(area, report));
        }
        for (int what = 0; what < 3; what++) {
            int report = what;
            add(answers, () -> x.order(area, report));
        }
        for (int what = 0; what < 6; what++) {
            int report = what;
            add(answers, () -> x.result(area, report));
        }
        add(answers, () -> x.isContested(area) ? 1 : 0);
        add(answers, () -> x.mayRetreat(area, 0) ? 1 : 0);
        add(answers, () -> x.mayRetreat(area, x.areas() - 2) ? 1 : 0);
    }

    /** The retreats that were told cannot be asked for: they show in what comes of them. */
    private static String unitsBehindThePhase(Game g) {
        if (g.settler.phase() == 1) {
            g.settler.endRetreats();
        }
        return g.units();
    }

    /** In a phase (3: on an empty map) the call must throw just this, and nothing may have changed. */
    private static void refused(String what, int phase, Class<? extends RuntimeException> due, Call call) {
        calls++;
        Game g = game(phase);
        Game same = game(phase);
        g.settler.feed(0x61206869, 0, 0, 0, 0);
        same.settler.feed(0x61206869, 0, 0, 0, 0);
        Check.fails(what + " in phase " + phase, due, () -> call.on(g.settler));
        Check.equal("the answers behind " + what, answersOf(same.settler).toString(), answersOf(g.settler).toString());
        Check.equal("the input behind " + what, 40, g.settler.feed(0, 0, 0, 0, 0));
        Check.equal("the units behind " + what, unitsBehindThePhase(same), unitsBehindThePhase(g));
    }

    // ---- the calls

    private static void inEveryPhase() {
        for (int phase = 0; phase < 3; phase++) {
            for (int area : new int[] {-1, 6, 16}) {
                refused("area", phase, NONE, x -> x.area(area, 9));
                refused("passes", phase, NONE, x -> x.passes(area, 0, true) ? 1 : 0);
                refused("distance", phase, NONE, x -> x.distance(0, area, true));
                refused("order", phase, NONE, x -> x.order(area, 3));
                refused("result", phase, NONE, x -> x.result(area, 6));
                refused("isContested", phase, NONE, x -> x.isContested(area) ? 1 : 0);
                refused("mayRetreat", phase, NONE, x -> x.mayRetreat(1, area) ? 1 : 0);
                refused("foresee", phase, NONE, x -> x.foresee(area, 6));
                refused("foreseeMove", phase, NONE, x -> x.foreseeMove(area, area));
                refused("reach", phase, NONE, x -> x.reach(area, 9, true));
                refused("isThreatened", phase, NONE, x -> x.isThreatened(area) ? 1 : 0);
            }
            refused("area's what", phase, RANGE, x -> x.area(0, 8));
            refused("result's what", phase, RANGE, x -> x.result(0, 6));
            refused("power", phase, NONE, x -> x.power(2, 4));
            refused("power's what", phase, RANGE, x -> x.power(0, 4));
            refused("share", phase, NONE, x -> (long) x.share(2));
            refused("shareBits", phase, NONE, x -> x.shareBits(-1));
            refused("reach's power", phase, NONE, x -> x.reach(0, 2, false));
            refused("foresee's what", phase, RANGE, x -> x.foresee(0, 6));
            refused("load of 21", phase, RANGE, x -> x.load(21));
            refused("load of -1", phase, RANGE, x -> x.load(-1));
            refused("tell of 21", phase, RANGE, x -> x.tell(21));
            refused("tell of -1", phase, RANGE, x -> x.tell(-1));
            refused("named of 0", phase, RANGE, x -> x.named(0));
            refused("named of 21", phase, RANGE, x -> x.named(21));
            refused("outputByte of -1", phase, INDEX, x -> x.outputByte(-1));
            refused("outputByte of 360", phase, INDEX, x -> x.outputByte(360));
        }
    }

    private static void inOrders() {
        refused("endRetreats", 0, STATE, OrderSettler::endRetreats);
        refused("endBuilds", 0, STATE, OrderSettler::endBuilds);
        refused("order's what", 0, RANGE, x -> x.order(0, 3));
        refused("order without a unit", 0, NONE, x -> x.order(1, 3));
        refused("isThreatened without a unit", 0, NONE, x -> x.isThreatened(1) ? 1 : 0);
        refused("mayRetreat without a dislodged unit", 0, NONE, x -> x.mayRetreat(0, 1) ? 1 : 0);
        refused("foreseeMove without a unit", 0, NONE, x -> x.foreseeMove(1, 1));
        refused("foreseeMove to its own area", 0, RANGE, x -> x.foreseeMove(0, 0));
        refused("foreseeMove of an army to a sea", 0, RANGE, x -> x.foreseeMove(0, 2));
        refused("foreseeMove of a fleet inland", 0, RANGE, x -> x.foreseeMove(2, 3));
    }

    private static void inRetreats() {
        refused("settle", 1, STATE, OrderSettler::settle);
        refused("endBuilds", 1, STATE, OrderSettler::endBuilds);
        refused("writeOrders", 1, STATE, OrderSettler::writeOrders);
        refused("order", 1, STATE, x -> x.order(1, 0));
        refused("order's what", 1, RANGE, x -> x.order(1, 3));
        refused("order without a unit", 1, NONE, x -> x.order(0, 3));
        refused("foresee", 1, STATE, x -> x.foresee(1, 0));
        refused("foreseeMove", 1, STATE, x -> x.foreseeMove(1, 0));
        refused("foreseeMove, not allowed", 1, RANGE, x -> x.foreseeMove(1, 1));
        refused("foreseeMove without a unit", 1, NONE, x -> x.foreseeMove(0, 0));
        refused("mayRetreat without a dislodged unit", 1, NONE, x -> x.mayRetreat(2, 1) ? 1 : 0);
    }

    private static void inBuilds() {
        refused("settle", 2, STATE, OrderSettler::settle);
        refused("endRetreats", 2, STATE, OrderSettler::endRetreats);
        refused("writeOrders", 2, STATE, OrderSettler::writeOrders);
        refused("order", 2, STATE, x -> x.order(4, 0));
        refused("order's what", 2, RANGE, x -> x.order(4, 3));
        refused("order without a unit", 2, NONE, x -> x.order(1, 3));
        refused("foresee", 2, STATE, x -> x.foresee(1, 0));
        refused("foreseeMove", 2, STATE, x -> x.foreseeMove(4, 1));
        refused("foreseeMove, not allowed", 2, RANGE, x -> x.foreseeMove(4, 4));
        refused("foreseeMove without a unit", 2, NONE, x -> x.foreseeMove(1, 4));
        refused("mayRetreat", 2, NONE, x -> x.mayRetreat(4, 1) ? 1 : 0);
    }

    private static void onAnEmptyMap() {
        refused("area", 3, NONE, x -> x.area(0, 9));
        refused("passes", 3, NONE, x -> x.passes(0, 0, false) ? 1 : 0);
        refused("distance", 3, NONE, x -> x.distance(0, 0, false));
        refused("power", 3, NONE, x -> x.power(0, 9));
        refused("order", 3, NONE, x -> x.order(0, 9));
        refused("result", 3, NONE, x -> x.result(0, 9));
        refused("outcomes", 3, STATE, OrderSettler::outcomes);
        refused("isContested", 3, NONE, x -> x.isContested(0) ? 1 : 0);
        refused("mayRetreat", 3, NONE, x -> x.mayRetreat(0, 0) ? 1 : 0);
        refused("endRetreats", 3, STATE, OrderSettler::endRetreats);
        refused("endBuilds", 3, STATE, OrderSettler::endBuilds);
        refused("undo", 3, STATE, OrderSettler::undo);
        refused("foresee", 3, NONE, x -> x.foresee(0, 9));
        refused("foreseeMove", 3, NONE, x -> x.foreseeMove(0, 0));
        refused("reach", 3, NONE, x -> x.reach(0, 0, false));
        refused("isThreatened", 3, NONE, x -> x.isThreatened(0) ? 1 : 0);
        refused("share", 3, NONE, x -> (long) x.share(0));
        refused("shareBits", 3, NONE, x -> x.shareBits(0));
        refused("leader", 3, NONE, OrderSettler::leader);
        refused("outputByte", 3, INDEX, x -> x.outputByte(0));
        // Nothing was settled on a map with areas either.
        Game g = new Game("land a;");
        Check.fails("result's area first", NONE, () -> g.settler.result(1, 6));
        Check.fails("result's what then", RANGE, () -> g.settler.result(0, 6));
        Check.fails("result at last", STATE, () -> g.settler.result(0, 5));
        Check.fails("isContested's area first", NONE, () -> g.settler.isContested(1) ? 1 : 0);
        Check.fails("isContested at last", STATE, () -> g.settler.isContested(0) ? 1 : 0);
    }

    /** "if the text has an error; then only the buffer, errorCode() and errorPosition() change" */
    private static void textsWithErrors() {
        String[] maps = {"^x;", "land x;coast y;power p;army p x;^x;", "land x^", "land x;land ^x;", "sea x ^center;"};
        String[][] texts = {{"a hold;^x hold;", "c to b;a hold;a to ^c;"}, {"b disband;b to ^a;", "b to e;^e to d;"},
            {"build b army;build ^c army;", "build b ^fleet;"}, {"^a hold;", "^hold;"}};
        int[][] codes = {{2, 4}, {4, 2}, {4, 4}, {2, 1}};
        int[] mapCodes = {1, 1, 1, 3, 4};
        for (int phase = 0; phase < 4; phase++) {
            for (int i = 0; i < maps.length; i++) {
                int code = mapCodes[i];
                String map = maps[i];
                keptBehindAnError(phase, map, g -> g.refusesMap(map, code));
            }
            for (int i = 0; i < 2; i++) {
                int code = codes[phase][i];
                String text = texts[phase][i];
                keptBehindAnError(phase, text, g -> g.refuses(text, code));
            }
        }
    }

    /** Something that is done to a game. */
    private interface Deed {
        void on(Game g);
    }

    private static void keptBehindAnError(int phase, String text, Deed refusal) {
        calls++;
        Game g = game(phase);
        Game same = game(phase);
        refusal.on(g);
        List<String> due = answersOf(same.settler);
        List<String> got = answersOf(g.settler);
        // The error is another one.
        Check.equal("the answers behind " + text, due.subList(2, due.size()).toString(),
                got.subList(2, got.size()).toString());
        Check.equal("the input behind " + text, 20, g.settler.feed(0, 0, 0, 0, 0));
        Check.equal("the units behind " + text, unitsBehindThePhase(same), unitsBehindThePhase(g));
    }

    /** named(): "the first length bytes of the buffer, which is emptied then" */
    private static void namesOfNothing() {
        for (int phase = 0; phase < 4; phase++) {
            keptBehindAnError(phase, "a name of no area", g -> Check.fails("named", NONE, () -> g.at("qq")));
        }
    }

    /** feed(): "nothing is appended then" */
    private static void fullInput() {
        for (int phase = 0; phase < 4; phase++) {
            Game g = game(phase);
            List<String> due = answersOf(g.settler);
            for (int i = 0; i < 50; i++) {
                g.settler.feed(0x20202020, 0x20202020, 0x20202020, 0x20202020, 0x20202020);
            }
            Check.fails("feed 51", STATE, () -> g.settler.feed(0, 0, 0, 0, 0));
            Check.equal("the answers behind feed", due.toString(), answersOf(g.settler).toString());
            Check.equal("the thousand blanks", 0, g.settler.tell(1000));
        }
    }
}
