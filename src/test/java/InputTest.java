/** Promises 1 to 6 and 10: a new object, the input buffer, and the errors of maps. */
final class InputTest {
    private static final int SYNTAX = 1;
    private static final int UNKNOWN = 2;
    private static final int DUPLICATE = 3;
    private static final int FORBIDDEN = 4;
    private static final int LIMIT = 5;

    private static final String SMALL = "land a center;coast b center;coast c;sea d;border a b;border b d;"
            + "power p a;power q;army p a;fleet q d;";

    public static void main(String[] args) {
        newObject();
        feeding();
        loading();
        loadingAnew();
        tellingLengths();
        naming();
        syntaxErrors();
        longWords();
        unknownNames();
        duplicates();
        forbidden();
        limits();
        leastErrors();
        Check.end("InputTest");
    }

    private static void newObject() {
        OrderSettler x = new OrderSettler();
        Check.equal("areas()", 0, x.areas());
        Check.equal("powers()", 0, x.powers());
        Check.equal("phase()", 0, x.phase());
        Check.equal("turn()", 1, x.turn());
        Check.equal("undoCount()", 0, x.undoCount());
        Check.equal("errorCode()", 0, x.errorCode());
        Check.equal("errorPosition()", -1, x.errorPosition());
        Check.equal("writeUnits()", 0, x.writeUnits());
        Check.equal("writeOrders()", 0, x.writeOrders());
        Check.fails("result", java.util.NoSuchElementException.class, () -> x.result(0, 0));
        Check.fails("outcomes", IllegalStateException.class, x::outcomes);
        Check.equal("settle() of nothing", 0, x.settle());
        Check.equal("outcomes() of nothing", 1, x.outcomes());
        Check.equal("turn() behind it", 2, x.turn());
    }

    private static void feeding() {
        Game g = new Game();
        for (int i = 1; i <= 50; i++) {
            Check.equal("feed " + i, 20 * i, g.settler.feed(0x6c616e64, 0x20613b20, 0x20202020, 0x20202020, 0x20202020));
        }
        Check.fails("feed 51", IllegalStateException.class, () -> g.settler.feed(0, 0, 0, 0, 0));
        Check.fails("load behind it", IllegalArgumentException.class, () -> g.settler.load(1001));
        // The second statement would name the area again: the bytes stand in the order of the parameters.
        Check.fails("load of all", IllegalStateException.class, () -> g.settler.load(1000));
        Check.equal("errorPosition()", 25, g.settler.errorPosition());
        Check.equal("feed into the emptied buffer", 20, g.settler.feed(0x6c616e64, 0x20613b20, 0, 0, 0));
        Check.equal("load of the first bytes", 0, g.settler.load(7));
        Check.equal("areas()", 1, g.settler.areas());
        // All four bytes of each of the five parameters are read, from the most significant one on.
        g.settler.feed(0x636f6173, 0x7420626b, 0x206c656e, 0x643b0a20, 0x0a202020);
        Check.fails("a spoilt statement", IllegalStateException.class, () -> g.settler.load(20));
        Check.equal("its error", 9, g.settler.errorPosition());
        g.settler.feed(0x636f6173, 0x74206263, 0x64656620, 0x63656e74, 0x65723b20);
        Check.equal("a whole statement", 0, g.settler.load(20));
        Check.equal("its center", 1, g.settler.area(0, 1));
        g.feed("bcdef");
        Check.equal("its name", 0, g.settler.named(5));
        g.settler.feed(-1, 0x80808080, 0, 0, 0);
        Check.fails("bytes above 127", IllegalStateException.class, () -> g.settler.load(1));
        Check.equal("errorCode()", SYNTAX, g.settler.errorCode());
        Check.equal("errorPosition()", 0, g.settler.errorPosition());
    }

    private static void loading() {
        Game g = new Game();
        Check.equal("load", 2, g.load(SMALL));
        Check.equal("errorCode()", 0, g.settler.errorCode());
        Check.equal("errorPosition()", -1, g.settler.errorPosition());
        Check.equal("areas()", 4, g.settler.areas());
        Check.equal("powers()", 2, g.settler.powers());
        Check.fails("load of -1", IllegalArgumentException.class, () -> g.settler.load(-1));
        Check.fails("load of 1", IllegalArgumentException.class, () -> g.settler.load(1));
        Check.equal("areas() still", 4, g.settler.areas());
        Check.equal("an empty map", 0, g.settler.load(0));
        Check.equal("its areas", 0, g.settler.areas());
        Check.equal("its powers", 0, g.settler.powers());
        Check.equal("blanks", 0, g.load(" \n \n"));
        Check.equal("no blanks but where words need them", 1,
                g.load("\nland\na;power p;army  p a ; "));
        // An error leaves the map as it is, and empties the buffer.
        g.refusesMap("land b;land c;^x", SYNTAX);
        Check.equal("areas() behind an error", 1, g.settler.areas());
        Check.equal("units behind an error", 0, g.settler.area(0, 4));
        Check.equal("the buffer behind an error", 20, g.settler.feed(0, 0, 0, 0, 0));
        // A length out of range leaves the buffer and the error.
        Check.fails("load of 21", IllegalArgumentException.class, () -> g.settler.load(21));
        Check.equal("errorCode() behind it", SYNTAX, g.settler.errorCode());
        Check.equal("errorPosition() behind it", 14, g.settler.errorPosition());
        Check.equal("the buffer behind it", 40, g.settler.feed(0, 0, 0, 0, 0));
        Check.equal("load of none of it", 0, g.settler.load(0));
        Check.equal("errorCode() behind that", 0, g.settler.errorCode());
        Check.equal("errorPosition() behind that", -1, g.settler.errorPosition());
        Check.equal("the buffer behind that", 20, g.settler.feed(0, 0, 0, 0, 0));
    }

    /** A new map lets everything begin anew, but for the output. */
    private static void loadingAnew() {
        Game g = new Game(SMALL);
        g.tell("a to b;");
        g.settler.settle();
        g.settler.settle();
        Check.equal("undoCount()", 2, g.settler.undoCount());
        int length = g.settler.writeUnits();
        Check.equal("load", 2, g.load(SMALL));
        Check.equal("turn()", 1, g.settler.turn());
        Check.equal("phase()", 0, g.settler.phase());
        Check.equal("undoCount() anew", 0, g.settler.undoCount());
        Check.fails("outcomes()", IllegalStateException.class, g.settler::outcomes);
        Check.fails("result()", IllegalStateException.class, () -> g.settler.result(0, 0));
        Check.fails("isContested()", IllegalStateException.class, () -> g.settler.isContested(0) ? 1 : 0);
        Check.equal("the unit's place", 0, g.settler.area(0, 4));
        Check.equal("no owner", -1, g.settler.area(1, 3));
        Check.equal("the output", "p A b\nq F d\n", g.output(length));
        g.tell("a to b;");
        g.load(SMALL);
        Check.equal("order() anew", 0, g.settler.order(0, 0));
        Check.equal("one area", 0, g.load("land x;"));
        Check.equal("no home of before", -1, g.settler.area(0, 2));
        Check.equal("no owner of before", -1, g.settler.area(0, 3));
        Game retreats = RetreatsTest.dislodged();
        retreats.load("land x;");
        Check.equal("ORDERS behind RETREATS", 0, retreats.settler.phase());
        Game builds = BuildsTest.building();
        builds.load("land x;land y;");
        Check.equal("ORDERS behind BUILDS", 0, builds.settler.phase());
        Check.equal("turn 1 behind BUILDS", 1, builds.settler.turn());
        Check.equal("no center of before", 0, builds.settler.area(0, 1));
        g.load("coast x center;coast y center;power p;");
        Check.isFalse("no border of before", g.settler.passes(0, 1, false));
        Check.equal("no homes of before", 0, g.settler.power(0, 2));
    }

    private static void tellingLengths() {
        Game g = new Game(SMALL);
        Check.fails("tell of -1", IllegalArgumentException.class, () -> g.settler.tell(-1));
        g.feed("a to b;");
        Check.fails("tell of 21", IllegalArgumentException.class, () -> g.settler.tell(21));
        Check.equal("tell of 7", 1, g.settler.tell(7));
        Check.equal("order", 1, g.settler.order(0, 0));
        Check.fails("tell of 1 of none", IllegalArgumentException.class, () -> g.settler.tell(1));
        Check.equal("tell of nothing", 0, g.settler.tell(0));
        Check.equal("the order stays", 1, g.settler.order(0, 0));
        g.refuses("a hold;a to ^d;", FORBIDDEN);
        Check.equal("the order stays behind an error", 1, g.settler.order(0, 0));
        Check.equal("the buffer behind an error", 20, g.settler.feed(0, 0, 0, 0, 0));
        Check.fails("tell of 21 behind an error", IllegalArgumentException.class, () -> g.settler.tell(21));
        Check.equal("errorCode() stays", FORBIDDEN, g.settler.errorCode());
        Check.equal("errorPosition() stays", 12, g.settler.errorPosition());
        g.settler.tell(0);
        Check.equal("errorCode() of a good text", 0, g.settler.errorCode());
        Check.equal("errorPosition() of a good text", -1, g.settler.errorPosition());
    }

    private static void naming() {
        Game g = new Game("land a;land ab;land abcde;land z;power pow;");
        Check.equal("a", 0, g.at("a"));
        Check.equal("ab", 1, g.at("ab"));
        Check.equal("abcde", 2, g.at("abcde"));
        Check.equal("z", 3, g.at("z"));
        for (String name : new String[] {"b", "abcd", "abcdef", "A", "a ", " a", "pow", "land", "aba", "zz", "`"}) {
            Check.fails(name, java.util.NoSuchElementException.class, () -> g.at(name));
        }
        Check.equal("the buffer is emptied", 20, g.settler.feed(0x61626364, 0x65666768, 0, 0, 0));
        Check.fails("named(0)", IllegalArgumentException.class, () -> g.settler.named(0));
        Check.fails("named(-1)", IllegalArgumentException.class, () -> g.settler.named(-1));
        Check.fails("named(21)", IllegalArgumentException.class, () -> g.settler.named(21));
        Check.equal("the buffer stays", 2, g.settler.named(5));
        Check.fails("named(1) of none", IllegalArgumentException.class, () -> g.settler.named(1));
        g.feed("a");
        g.settler.named(1);
        Check.fails("no name of 20 bytes", java.util.NoSuchElementException.class, () -> {
            g.feed("abcdeabcdeabcdeabcde");
            return g.settler.named(20);
        });
        Check.equal("the buffer is emptied", 20, g.settler.feed(0, 0, 0, 0, 0));
        Check.equal("errorCode()", 0, g.settler.errorCode());
    }

    private static void syntaxErrors() {
        Game g = new Game();
        String[] maps = {
            "^foo;", "^;", "land^", "land ^;", "land a^", "land a  ^", "land a \n^", "land a^$;", "land ^A;",
            "land a^B;", "land a ^b;", "land a;^;", "land^\ta;", "^landa;", "land a center ^center;",
            "land a ^army;", "land a^\u00e9;", "land a;^\u0000", "land a;^\r\n", "^Land a;", "^0", "land ^1;",
            "^hold;", "^to a;", "^center;", "^build a army;", "land a^,b;", "land a^{;",
            "land a^`;", "border^", "border ^;", "coast a;coast b;border a^", "coast a;coast b;border a ^;",
            "coast a;coast b;border a b^", "coast a;coast b;border a b ^center;",
            "coast a;coast b;border a b army ^fleet;", "coast a;coast b;border a b army^",
            "power^", "power ^;", "power p^", "power p ^land;", "land a;power p ^center;", "power p^?",
            "army^", "army ^;", "power p;army p^", "power p;army p ^;", "land a;power p;army p a^",
            "land a;power p;army p a ^a;", "power p;fleet^", "power p;army ^army p;",
        };
        for (String map : maps) {
            g.refusesMap(map, SYNTAX);
        }
        for (String keyword : Model.KEYWORDS) {
            g.refusesMap("land ^" + keyword + ";", SYNTAX);
            g.refusesMap("power ^" + keyword + ";", SYNTAX);
            g.refusesMap("coast a;coast b;border a ^" + keyword + ";", SYNTAX);
        }
        Check.equal("words that begin like keywords", 0, g.load("land lan;land landx;land t;land too;land hol;"));
    }

    private static void longWords() {
        Game g = new Game();
        g.load("land abcde;");
        g.refusesMap("land ^abcdef;", SYNTAX);
        g.refusesMap("land ^abcdefghijklmnopqrstuvwxyz;", SYNTAX);
        g.refusesMap("^landlandland a;", SYNTAX);
        g.refusesMap("^lands a;", SYNTAX);
        // A keyword with more letters behind it is none.
        g.refusesMap("land a ^centers;", SYNTAX);
        g.refusesMap("land a ^centerx;", SYNTAX);
        g.refusesMap("^borderborder a b;", SYNTAX);
        Game orders = new Game("coast a;coast b;border a b;power p;army p a;army p b;");
        orders.refuses("a ^supportt b;", SYNTAX);
        orders.refuses("a ^supporta b;", SYNTAX);
        orders.refuses("a ^suppor b;", SYNTAX);
        orders.refuses("^aaaaaaa hold;", SYNTAX);
        orders.refuses("a ^asupport b;", SYNTAX);
        Check.equal("support", 1, orders.tell("a support b;"));
    }

    private static void unknownNames() {
        Game g = new Game();
        String[] maps = {
            "border ^a b;", "land a;border a ^b;", "land a;border ^b a;", "power p ^x;", "land a;power p ^p;",
            "army ^p a;", "land a;army ^a a;", "power p;army p ^a;", "power p;land a;fleet p ^b;",
            // A name must have been told before.
            "border ^a b;coast a;coast b;", "land a;army ^p a;power p;", "power p ^a;land a center;",
            "land a;border a ^aa;", "land aa;power p ^a;",
        };
        for (String map : maps) {
            g.refusesMap(map, UNKNOWN);
        }
    }

    private static void duplicates() {
        Game g = new Game();
        String[] maps = {
            "land a;sea ^a;", "land a;coast b;coast ^a center;", "power p;power ^p;",
            "land a center;power p a;power q;power ^p a;",
            "coast a;coast b;border a b;border a ^b;", "coast a;coast b;border a b;border b ^a;",
            "coast a;coast b;border a b fleet;border a ^b army;", "coast a;border a ^a;", "sea a;border a ^a army;",
            "land a center;power p a ^a;", "land a center;power p a;power q ^a;",
            "land a;power p;army p a;army p ^a;", "coast a;power p;power q;army p a;fleet q ^a;",
            // Of two errors at one position the lesser code is told.
            "land a;power p;army p a;fleet p ^a;", "sea a;power p;fleet p a;army p ^a;",
        };
        for (String map : maps) {
            g.refusesMap(map, DUPLICATE);
        }
        Check.equal("an area and a power of one name", 1, g.load("land a;power a;army a a;"));
    }

    private static void forbidden() {
        Game g = new Game();
        String[] maps = {
            "sea a ^center;", "land a;power p ^a;", "sea a;power p ^a;", "land a center;coast b;power p a ^b;",
            "sea a;power p;army p ^a;", "land a;power p;fleet p ^a;",
            "land a;sea b;border a ^b;", "sea a;land b;border a ^b;", "land a;sea b;border a b ^army;",
            "land a;sea b;border a b ^fleet;", "land a;land b;border a b ^fleet;", "sea a;sea b;border a b ^army;",
            "coast a;sea b;border a b ^army;", "land a;coast b;border a b ^fleet;", "coast a;land b;border a b ^fleet;",
        };
        for (String map : maps) {
            g.refusesMap(map, FORBIDDEN);
        }
        Check.equal("what is allowed", 4, g.load("land a center;coast b center;coast c;sea d;sea e;land f;"
                + "border a b army;border a f;border b c army;border b d fleet;border d e fleet;border a c;"
                + "power p b a;army p a;army p b;fleet p c;fleet p d;"));
        Check.equal("a border for fleets alone", 0, g.load("coast a;coast b;border a b fleet;"));
    }

    private static String list(String word, int count, String end) {
        StringBuilder text = new StringBuilder();
        for (int i = 0; i < count; i++) {
            text.append(word).append(' ').append((char) ('a' + i)).append(end);
        }
        return text.toString();
    }

    private static void limits() {
        Game g = new Game();
        Check.equal("16 areas", 0, g.load(list("land", 16, ";")));
        Check.equal("areas()", 16, g.settler.areas());
        g.refusesMap(list("land", 16, ";") + " ^sea q;", LIMIT);
        g.refusesMap(list("land", 16, ";") + "^coast a;", LIMIT);
        Check.equal("4 powers", 0, g.load(list("power", 4, ";")));
        Check.equal("powers()", 4, g.settler.powers());
        g.refusesMap(list("power", 4, ";") + "^power e;", LIMIT);
        g.refusesMap(list("power", 4, ";") + "^power", LIMIT);
        String areas = list("land", 16, ";") + "power p;";
        Check.equal("12 units", 12, g.load(areas + list("army p", 12, ";")));
        Check.equal("their number", 12, g.settler.power(0, 1));
        g.refusesMap(areas + list("army p", 12, ";") + "\n^army p m;", LIMIT);
        g.refusesMap(areas + list("army p", 12, ";") + "^fleet p a;", LIMIT);
        g.refusesMap(areas + list("army p", 12, ";") + "^soldier p a;", SYNTAX);
    }

    private static void leastErrors() {
        Game g = new Game();
        g.refusesMap("land a;land ^a;$", DUPLICATE);
        g.refusesMap("land a;land ^a $", DUPLICATE);
        g.refusesMap("land a;border a ^x foo;", UNKNOWN);
        g.refusesMap("land a;sea b;border a ^b foo;", FORBIDDEN);
        g.refusesMap("land a;sea b;border a ^b", FORBIDDEN);
        g.refusesMap("land a;sea b;border a b ^army foo;", FORBIDDEN);
        g.refusesMap("sea a ^center center;", FORBIDDEN);
        g.refusesMap("land a;^$ land a;", SYNTAX);
        g.refusesMap("power p ^x$", UNKNOWN);
        g.refusesMap("power p ^abcdef;", SYNTAX);
    }
}
