/** A short game: README.md shows this program and what it prints. */
public final class Example {
    private static final String MAP = """
            land a center; coast b; coast c center; land d; coast e center; sea s;
            border a b; border a d; border b c; border b d; border b s; border c s;
            border e s;
            power p a; power q c e;
            army p a; army p d; army q b;
            """;

    public static void main(String[] args) {
        OrderSettler settler = new OrderSettler();
        feed(settler, MAP);
        System.out.println("units: " + settler.load(MAP.length()));
        int a = area(settler, "a");
        int b = area(settler, "b");
        int c = area(settler, "c");
        int d = area(settler, "d");

        // Orders; a text with an error changes nothing.
        System.out.println("orders told: " + tell(settler, "a to b; d support a to b; b hold;"));
        tell(settler, "a to zz;");
        System.out.print(output(settler, settler.writeOrders()));

        // What would be: with these orders, and if the army at d or the one at b moved instead.
        System.out.println("a to b would succeed: " + (settler.foresee(a, 0) == 1));
        System.out.println("b would be dislodged: " + (settler.foresee(b, 1) == 1));
        System.out.println("d to b would succeed: " + (settler.foreseeMove(d, b) == 1));
        System.out.println("b to c would succeed: " + (settler.foreseeMove(b, c) == 1));

        // Settling.
        System.out.println("moves that succeeded: " + settler.settle());
        System.out.println("strength of a to b: " + settler.result(a, 2));
        System.out.println("b is dislodged: " + (settler.result(b, 1) == 1));

        // Retreats: not to where the attack came from, nor to where a unit is.
        System.out.println("phase: " + settler.phase());
        System.out.println("b may retreat to a: " + settler.mayRetreat(b, a));
        System.out.println("b may retreat to c: " + settler.mayRetreat(b, c));
        tell(settler, "b to c;");
        System.out.println("units gone: " + settler.endRetreats());

        // Behind turn 2 centers change hands, and units are built or removed.
        System.out.println("moves that succeeded in turn " + settler.turn() + ": " + settler.settle());
        System.out.println("phase: " + settler.phase());
        System.out.println("p may build " + settler.power(0, 3) + ", q " + settler.power(1, 3));
        System.out.println("builds told: " + tell(settler, "remove d; build e fleet;"));
        System.out.println("units taken away: " + settler.endBuilds());
        System.out.print(output(settler, settler.writeUnits()));
        System.out.println("share of q: " + settler.share(1));

        // Undoing the end of the builds, then the settling of turn 2.
        System.out.println("can still be undone: " + settler.undo());
        System.out.println("phase: " + settler.phase());
        System.out.println("can still be undone: " + settler.undo());
        System.out.print(output(settler, settler.writeUnits()));
    }

    /** Puts a text into the input buffer, filled up with blanks to a multiple of 20 bytes. */
    private static void feed(OrderSettler settler, String text) {
        for (int i = 0; i < text.length(); i += 20) {
            settler.feed(word(text, i), word(text, i + 4), word(text, i + 8), word(text, i + 12), word(text, i + 16));
        }
    }

    private static int word(String text, int at) {
        int word = 0;
        for (int i = at; i < at + 4; i++) {
            word = word << 8 | (i < text.length() ? text.charAt(i) : ' ');
        }
        return word;
    }

    /** The number of an area. */
    private static int area(OrderSettler settler, String name) {
        feed(settler, name);
        return settler.named(name.length());
    }

    /** Tells orders, retreats or builds, as the phase is, and answers how many; -1 if the text has an error. */
    private static int tell(OrderSettler settler, String text) {
        feed(settler, text);
        try {
            return settler.tell(text.length());
        } catch (IllegalStateException e) {
            System.out.println("error " + settler.errorCode() + " at " + settler.errorPosition() + " of: " + text);
            return -1;
        }
    }

    /** The output buffer, which is as long as the call that wrote it has answered. */
    private static String output(OrderSettler settler, int length) {
        StringBuilder text = new StringBuilder();
        for (int i = 0; i < length; i++) {
            text.append((char) settler.outputByte(i));
        }
        return text.toString();
    }
}
