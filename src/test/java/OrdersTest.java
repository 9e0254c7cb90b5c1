import java.util.NoSuchElementException;

/** Promises 4, 16 and 35 to 37: orders are told, reported and written. */
final class OrdersTest {
    private static final int SYNTAX = 1;
    private static final int UNKNOWN = 2;
    private static final int FORBIDDEN = 4;

    // The areas: a 0 land, b 1 coast, c 2 coast, d 3 sea, e 4 sea, f 5 coast, g 6 coast.
    private static final String MAP = "land a;coast b;coast c;sea d;sea e;coast f;coast g;"
            + "border a b;border b c;border b d;border c d;border d e;border e f;border f g fleet;border e g;"
            + "power p;power q;army p a;army p b;fleet q d;fleet q e;army q f;fleet p g;";

    public static void main(String[] args) {
        reports();
        reportErrors();
        lastOneCounts();
        wholeOrNothing();
        syntax();
        unknown();
        forbiddenMoves();
        forbiddenSupports();
        forbiddenConvoys();
        leastErrors();
        output();
        Check.end("OrdersTest");
    }

    private static void checkOrder(Game g, String area, int kind, int first, int second) {
        int a = g.at(area);
        Check.equal("kind of the order of " + area, kind, g.settler.order(a, 0));
        Check.equal("first area of the order of " + area, first, g.settler.order(a, 1));
        Check.equal("second area of the order of " + area, second, g.settler.order(a, 2));
    }

    private static void reports() {
        Game g = new Game(MAP);
        for (String area : new String[] {"a", "b", "d", "e", "f", "g"}) {
            checkOrder(g, area, 0, -1, -1);
        }
        Check.equal("orders told", 6,
                g.tell("a to b;b support a;d convoy f to c;e convoy f to c;f to c;g support e to f;"));
        checkOrder(g, "a", 1, 1, -1);
        checkOrder(g, "b", 2, 0, -1);
        checkOrder(g, "d", 4, 5, 2);
        checkOrder(g, "f", 1, 2, -1);
        checkOrder(g, "g", 3, 4, 5);
        Check.equal("one order told", 1, g.tell("g hold ;\n"));
        checkOrder(g, "g", 0, -1, -1);
        checkOrder(g, "f", 1, 2, -1);
        g.settler.settle();
        checkOrder(g, "e", 0, -1, -1);
    }

    private static void reportErrors() {
        Game g = new Game(MAP);
        for (int area : new int[] {-1, 2, 7, Integer.MIN_VALUE, Integer.MAX_VALUE}) {
            Check.fails("order of " + area, NoSuchElementException.class, () -> g.settler.order(area, 0));
            Check.fails("order of " + area + ", 3", NoSuchElementException.class, () -> g.settler.order(area, 3));
        }
        for (int what : new int[] {-1, 3, Integer.MIN_VALUE, Integer.MAX_VALUE}) {
            Check.fails("what " + what, IllegalArgumentException.class, () -> g.settler.order(0, what));
        }
        Game out = RetreatsTest.dislodged();
        Check.fails("no unit in RETREATS", NoSuchElementException.class, () -> out.settler.order(0, 0));
        Check.fails("what 3 in RETREATS", IllegalArgumentException.class, () -> out.settler.order(1, 3));
        Check.fails("order in RETREATS", IllegalStateException.class, () -> out.settler.order(1, 0));
        Check.fails("writeOrders in RETREATS", IllegalStateException.class, out.settler::writeOrders);
    }

    private static void lastOneCounts() {
        Game g = new Game(MAP);
        Check.equal("orders told", 3, g.tell("a to b;a hold;a support b;"));
        checkOrder(g, "a", 2, 1, -1);
        g.tell("a to b;");
        checkOrder(g, "a", 1, 1, -1);
    }

    private static void wholeOrNothing() {
        Game g = new Game(MAP);
        g.tell("b to c;");
        g.refuses("b hold;a to b;^c hold;", UNKNOWN);
        checkOrder(g, "b", 1, 2, -1);
        checkOrder(g, "a", 0, -1, -1);
    }

    private static void syntax() {
        Game g = new Game(MAP);
        String[] texts = {
            "a^", "^;", "a ^;", "a ^b;", "a ^a hold;", "a hold^", "a hold ^b;", "a to^", "a to ^;", "a to b^",
            "a to b ^c;", "a support^", "a support ^;", "a support b^", "a support b to^", "a support b to ^;",
            "a support b ^hold;", "d convoy^", "d convoy ^;", "d convoy f^", "d convoy f ^;", "d convoy f ^c;",
            "d convoy f to^", "d convoy f to ^;", "d convoy f to c^", "a to^: b;",
            "a ^disband;", "^build a army;", "^remove a;", "^to b;", "a ^land;", "a to ^hold;", "a support ^sea;",
            "d convoy ^army to c;", "d convoy f to ^fleet;", "a ^holds;",
            "a hold;^;", "a hold^.", "^hold;", "^abcdef hold;", "a to ^abcdef;",
        };
        for (String text : texts) {
            g.refuses(text, SYNTAX);
        }
    }

    private static void unknown() {
        Game g = new Game(MAP);
        String[] texts = {
            "^x hold;", "^c hold;", "^p hold;", "a to ^x;", "a support ^x;", "a support ^x to b;", "a support b to ^x;",
            "d convoy ^x to c;", "d convoy f to ^x;", "^c to b;", "a hold;^x to",
        };
        for (String text : texts) {
            g.refuses(text, UNKNOWN);
        }
    }

    private static void forbiddenMoves() {
        Game g = new Game(MAP);
        // Not next to it; to itself; an army at sea; inland by sea; a fleet on land; a fleet by sea.
        for (String text : new String[] {"a to ^c;", "a to ^a;", "b to ^b;", "b to ^d;", "a to ^f;", "f to ^a;",
            "d to ^a;", "g to ^d;", "g to ^b;", "g to ^g;", "d to ^d;"}) {
            g.refuses(text, FORBIDDEN);
        }
        // Armies at coasts may be told to go by sea wherever a coast is, also where fleets alone pass.
        Check.equal("what is allowed", 8,
                g.tell("a to b;b to a;b to c;b to f;b to g;f to g;g to f;e to g;"));
    }

    private static void forbiddenSupports() {
        Game g = new Game(MAP);
        for (String text : new String[] {
            // no unit, not next to it, itself
            "b support ^c;", "a support ^d;", "a support ^a;", "d support ^f;", "b support ^d;",
            // no unit, its own area, the goal, not next to it, the supporter's own move
            "b support c to ^a;", "b support a to ^b;", "b support b to ^a;", "b support a to ^a;",
            "a support b to ^c;", "b support d to ^d;", "a support d to ^a;"}) {
            g.refuses(text, FORBIDDEN);
        }
        // The supported move needs not be one that can be.
        Check.equal("what is allowed", 6, g.tell("a support b;b support a;d support b;b support e to a;"
                + "b support g to c;g support a to f;"));
    }

    private static void forbiddenConvoys() {
        Game g = new Game(MAP);
        for (String text : new String[] {
            "b convoy f to ^c;", "g convoy b to ^c;", "d convoy a to ^c;", "d convoy c to ^b;", "d convoy g to ^c;",
            "d convoy b to ^a;", "d convoy b to ^e;", "d convoy b to ^b;", "d convoy e to ^c;"}) {
            g.refuses(text, FORBIDDEN);
        }
        // The fleet needs not be next to the coasts.
        Check.equal("what is allowed", 3, g.tell("d convoy f to g;e convoy b to c;d convoy b to f;"));
    }

    private static void leastErrors() {
        Game g = new Game(MAP);
        g.refuses("a support ^d foo;", FORBIDDEN);
        g.refuses("a support ^d", FORBIDDEN);
        g.refuses("a support d to^", SYNTAX);
        g.refuses("a support d to b^2;", SYNTAX);
        g.refuses("a to ^c;$", FORBIDDEN);
        g.refuses("a hold;^x hold;a to c;", UNKNOWN);
    }

    private static void output() {
        Game g = new Game("coast abcde;coast b;sea c;coast zz;border c abcde;border b c;border zz c;border abcde b army;"
                + "power pow;power z;army pow zz;fleet z c;army z abcde;");
        String units = "z A abcde\nz F c\npow A zz\n";
        Check.equal("length of the units", units.length(), g.settler.writeUnits());
        Check.equal("units", units, g.units());
        Check.equal("orders", "abcde hold;\nc hold;\nzz hold;\n", g.orders());
        Check.fails("before the output", IndexOutOfBoundsException.class, () -> g.settler.outputByte(-1));
        Check.fails("behind the output", IndexOutOfBoundsException.class, () -> g.settler.outputByte(29));
        Check.fails("far off", IndexOutOfBoundsException.class, () -> g.settler.outputByte(Integer.MAX_VALUE));
        Check.fails("far before", IndexOutOfBoundsException.class, () -> g.settler.outputByte(Integer.MIN_VALUE));
        Check.equal("its last byte", 10, g.settler.outputByte(28));
        Check.equal("its first byte", 'a', g.settler.outputByte(0));
        g.tell("abcde to zz;c convoy abcde to zz;");
        Check.equal("the output stays", 'a', g.settler.outputByte(0));
        Check.equal("orders", "abcde to zz;\nc convoy abcde to zz;\nzz hold;\n", g.orders());
        g.tell("c support abcde;abcde hold;");
        Check.equal("orders", "abcde hold;\nc support abcde;\nzz hold;\n", g.orders());
        g.tell("c support zz to b;");
        int length = g.settler.writeOrders();
        Check.equal("orders", "abcde hold;\nc support zz to b;\nzz hold;\n", g.output(length));
        Game out = RetreatsTest.dislodged();
        Check.fails("writeOrders in RETREATS", IllegalStateException.class, out.settler::writeOrders);
        g.settler.writeUnits();
        Check.equal("the output of a shorter text", "z A abcde\nz F c\npow A zz\n", g.output(units.length()));
        Check.fails("behind the shorter output", IndexOutOfBoundsException.class,
                () -> g.settler.outputByte(units.length()));
        fullOutput();
    }

    /** Twelve orders of the greatest length. */
    private static void fullOutput() {
        StringBuilder map = new StringBuilder("power ppppp;");
        StringBuilder due = new StringBuilder();
        StringBuilder orders = new StringBuilder();
        for (char c = 'a'; c < 'n'; c++) {
            map.append("land aaaa").append(c).append(";");
        }
        for (char c = 'a'; c < 'm'; c++) {
            map.append("army ppppp aaaa").append(c).append(";");
            map.append("border aaaa").append(c).append(" aaaam;");
            String other = c == 'a' ? "aaaab" : "aaaaa";
            String order = "aaaa" + c + " support " + other + " to aaaam;";
            orders.append(order);
            due.append(order).append('\n');
        }
        Game g = new Game(map.toString());
        Check.equal("orders told", 12, g.tell(orders.toString()));
        Check.equal("length", 360, g.settler.writeOrders());
        Check.equal("orders", due.toString(), g.orders());
    }
}
