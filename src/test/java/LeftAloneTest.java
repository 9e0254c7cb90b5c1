/** What each call leaves as it is: each method tests the sentence of the document that stands above it. */
final class LeftAloneTest {
    private static final int SYNTAX = 1;
    private static final int UNKNOWN = 2;
    private static final String MAP = "land a;land b;land c;land d;land e;land f center;land g;land h;land k center;"
            + "land l center;land m center;land n center;land o center;border a b;border b c;border c h;border h b;"
            + "border d g;border e g;power p f k l;power q m n;power r o;"
            + "army p a;army p c;army q b;army q d;army r e;";

    public static void main(String[] args) {
        latestSettling();
        buffersAndErrors();
        askingChangesNothing();
        Check.end("LeftAloneTest");
    }

    /** The game before the settling of turn 2, by which b is dislodged and g is contested. */
    private static Game second() {
        Game g = new Game(MAP);
        g.settler.settle();
        g.tell("a to b;c support a to b;d to g;e to g;");
        return g;
    }

    /** All that is told of the latest settling. */
    private static String settling(Game g) {
        StringBuilder text = new StringBuilder();
        text.append(g.settler.outcomes());
        for (int a = 0; a < g.settler.areas(); a++) {
            text.append('\n').append(a).append(g.settler.isContested(a) ? " contested" : "");
            for (int what = 0; what < 6; what++) {
                text.append(' ').append(g.settler.result(a, what));
            }
        }
        return text.toString();
    }

    /** "Reports on the latest settling": until there is another one, whatever comes behind it. */
    private static void latestSettling() {
        Game g = second();
        String first = settling(g);
        Check.equal("settle", 1, g.settler.settle());
        String due = settling(g);
        Check.isTrue("contested", g.settler.isContested(6));
        Check.isTrue("it is another one", !due.equals(first));
        g.tell("b to h;");
        Check.equal("behind a retreat told", due, settling(g));
        Check.equal("gone", 0, g.settler.endRetreats());
        Check.equal("behind the retreats", due, settling(g));
        Check.equal("phase", 2, g.settler.phase());
        g.tell("build k army;");
        Check.equal("behind a build told", due, settling(g));
        g.settler.endBuilds();
        Check.equal("behind the builds", due, settling(g));
        g.refuses("^a hold;", UNKNOWN);
        Check.equal("behind an error", due, settling(g));
        g.tell("b to c;c to h;h to b;");
        Check.equal("behind orders told", due, settling(g));
        Check.equal("foreseen", 1, g.settler.foresee(1, 0));
        Check.equal("behind what was foreseen", due, settling(g));
        Check.equal("foreseen", 1, g.settler.foreseeMove(3, 6));
        Check.equal("behind the move that was foreseen", due, settling(g));
        g.settler.undo();
        Check.equal("behind the undone builds", due, settling(g));
        g.settler.undo();
        Check.equal("behind the undone retreats", due, settling(g));
        g.settler.undo();
        Check.equal("behind the undone settling", first, settling(g));
        g.settler.settle();
        g.settler.endRetreats();
        g.settler.endBuilds();
        g.tell("b to c;");
        g.settler.settle();
        Check.isTrue("behind another settling", !settling(g).equals(due));
        Check.isFalse("no longer contested", g.settler.isContested(6));
    }

    /** The error, the input and the output are as they were behind a call that does not tell of them. */
    private static void leavesBuffers(String what, Game g, Check.Call call) {
        g.refuses("  ^#", SYNTAX);
        String output = g.units();
        g.feed("c");
        call.answer();
        Check.equal(what + ", errorCode", SYNTAX, g.settler.errorCode());
        Check.equal(what + ", errorPosition", 2, g.settler.errorPosition());
        Check.equal(what + ", output", output, g.output(output.length()));
        Check.fails(what + ", end of the output", IndexOutOfBoundsException.class,
                () -> g.settler.outputByte(output.length()));
        Check.fails(what + ", more than the input", IllegalArgumentException.class, () -> g.settler.named(21));
        Check.equal(what + ", input", 2, g.settler.named(1));
        Check.equal(what + ", errorCode behind named", SYNTAX, g.settler.errorCode());
        Check.equal(what + ", errorPosition behind named", 2, g.settler.errorPosition());
    }

    /** errorCode: "found by the latest call of load() or tell()"; feed, load, tell and named alone tell of the input. */
    private static void buffersAndErrors() {
        Game g = second();
        leavesBuffers("foresee", g, () -> g.settler.foresee(0, 0));
        leavesBuffers("foreseeMove", g, () -> g.settler.foreseeMove(0, 1));
        leavesBuffers("settle", g, g.settler::settle);
        leavesBuffers("mayRetreat", g, () -> g.settler.mayRetreat(1, 7) ? 1 : 0);
        leavesBuffers("endRetreats", g, g.settler::endRetreats);
        leavesBuffers("endBuilds", g, g.settler::endBuilds);
        leavesBuffers("the first undo", g, g.settler::undo);
        leavesBuffers("the second undo", g, g.settler::undo);
        leavesBuffers("the third undo", g, g.settler::undo);
        g.tell("a hold;d hold;e hold;");
        leavesBuffers("settle without RETREATS", g, g.settler::settle);
        leavesBuffers("reports", g, () -> g.settler.area(0, 0) + g.settler.power(0, 0) + g.settler.leader()
                + g.settler.reach(1, 0, true) + g.settler.distance(0, 2, false) + (long) g.settler.share(0));
    }

    /** "what would be; nothing changes": and no report changes what another one tells. */
    private static void askingChangesNothing() {
        Game g = second();
        String units = g.units();
        String orders = g.orders();
        String before = settling(g);
        for (int a = 0; a < g.settler.areas(); a++) {
            for (int to = 0; to < g.settler.areas(); to++) {
                int from = a;
                int goal = to;
                Check.outcomeOf(() -> g.settler.foreseeMove(from, goal));
                g.settler.foresee(to, a % 6);
            }
        }
        Check.equal("units", units, g.units());
        Check.equal("orders", orders, g.orders());
        Check.equal("the latest settling", before, settling(g));
        Check.equal("undoCount", 1, g.settler.undoCount());
        Check.equal("turn", 2, g.settler.turn());
        Check.equal("settle", 1, g.settler.settle());
    }
}
