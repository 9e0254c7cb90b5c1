import java.util.ArrayList;
import java.util.List;

/**
 * The edges of sections 1, 2 and 6 and of promises 1 to 6 and 10: each method tests the sentence of the
 * document that stands above it.
 */
final class TextEdgesTest {
    private static final int SYNTAX = 1;
    private static final int UNKNOWN = 2;
    private static final int DUPLICATE = 3;
    private static final int FORBIDDEN = 4;
    private static final int LIMIT = 5;

    private static final Class<IllegalArgumentException> RANGE = IllegalArgumentException.class;
    private static final Class<IllegalStateException> STATE = IllegalStateException.class;

    // The areas are named a to d; @ stands for the NAME that is tried.
    private static final String AREAS = "coast a center;coast b;sea c;land d center;border a b;border c b;power p;";
    private static final String[] NEW_NAMES = {"land @;", "coast @ center;", "sea @;", "power @;", "power @ a;"};
    private static final String[] MAP_NAMES = {"border @ a;", "border a @;", "border a @ army;", "power q @;",
        "power q a @;", "army @ a;", "fleet @ c;", "army p @;", "fleet p @;"};
    private static final String[] ORDER_NAMES = {"@ hold;", "@ to a;", "@ support a;", "@ convoy a to b;", "a to @;",
        "a support @;", "a support @ to b;", "a support c to @;", "c convoy @ to b;", "c convoy a to @;"};
    private static final String[] RETREAT_NAMES = {"@ disband;", "@ to d;", "b to @;"};
    private static final String[] BUILD_NAMES = {"build @ army;", "build @ fleet;", "remove @;"};

    public static void main(String[] args) {
        emptyMapAtFirst();
        fourBytesOfEachParameter();
        fullBuffer();
        wholeBufferIsRead();
        lengthOfTheText();
        emptyTexts();
        lettersOfNames();
        wrongNames();
        unknownNames();
        sixteenAreas();
        fourPowers();
        twelveUnits();
        limitBeforeOtherErrors();
        homesOnce();
        borders();
        bordersOnce();
        blanks();
        everyByte();
        endOfTheText();
        leastCodeAtOnePosition();
        wholeOrNotAtAll();
        latestError();
        namesOfAreas();
        namesOfAreasAndPowers();
        Check.end("TextEdgesTest");
    }

    private static Game orders() {
        return new Game(AREAS + "army p a;army p b;fleet p c;");
    }

    /** "At first there is an empty map." */
    private static void emptyMapAtFirst() {
        Game g = new Game();
        Check.fails("named", java.util.NoSuchElementException.class, () -> g.at("a"));
        Check.equal("tell of nothing", 0, g.settler.tell(0));
        g.refuses("^a hold;", UNKNOWN);
        Check.equal("units", "", g.units());
        Check.equal("orders", "", g.orders());
        Check.fails("outputByte", IndexOutOfBoundsException.class, () -> new OrderSettler().outputByte(0));
        Check.isTrue("unevenness", g.settler.unevenness() == 0);
        Check.fails("leader", java.util.NoSuchElementException.class, g.settler::leader);
    }

    /** "Appends 20 bytes to the input buffer: the four bytes of each parameter in order, the most significant byte first." */
    private static void fourBytesOfEachParameter() {
        // "land a;" begins at each byte of the 20, behind blanks; the rest is blank.
        for (int at = 0; at <= 13; at++) {
            byte[] bytes = (" ".repeat(at) + "land a;" + " ".repeat(13 - at)).getBytes();
            OrderSettler x = new OrderSettler();
            Game.feed(x, bytes);
            Check.equal("load at " + at, 0, x.load(20));
            Check.equal("areas at " + at, 1, x.areas());
        }
        // The greatest and the least numbers are bytes like others.
        int[][] words = {{-1, 0}, {Integer.MIN_VALUE, 0}, {Integer.MAX_VALUE, 0}, {0x20202020, 4}, {0x2020ff20, 2},
            {0x20200080, 2}, {0x20202061, 3}};
        for (int[] word : words) {
            OrderSettler x = new OrderSettler();
            Check.equal("feed", 20, x.feed(word[0], 0, 0, 0, 0));
            Check.fails("load of " + word[0], STATE, () -> x.load(5));
            Check.equal("errorPosition of " + word[0], word[1], x.errorPosition());
        }
    }

    /** "Throws IllegalStateException if the length would exceed 1000; nothing is appended then" */
    private static void fullBuffer() {
        OrderSettler x = new OrderSettler();
        for (int i = 1; i <= 50; i++) {
            Check.equal("feed " + i, 20 * i, x.feed(0x20202020, 0x20202020, 0x20202020, 0x20202020, 0x20202020));
        }
        Check.fails("feed 51", STATE, () -> x.feed(0, 0, 0, 0, 0));
        Check.fails("feed 52", STATE, () -> x.feed(0, 0, 0, 0, 0));
        Check.fails("load of 1001", RANGE, () -> x.load(1001));
        Check.fails("tell of 1001", RANGE, () -> x.tell(1001));
        Check.fails("named of 1001", RANGE, () -> x.named(1001));
        Check.equal("the thousand blanks are as they were", 0, x.load(1000));
        Check.equal("feed again", 20, x.feed(0, 0, 0, 0, 0));
    }

    /** "Parses the first length bytes of the buffer": up to all 1000 of them. */
    private static void wholeBufferIsRead() {
        Game g = new Game();
        String full = "land a;" + " ".repeat(986) + "land b;";
        Check.equal("a text of 1000 bytes", 0, g.load(full));
        Check.equal("areas", 2, g.settler.areas());
        g.refusesMap("land a;" + " ".repeat(992) + "^$", SYNTAX);
        g.refusesMap("land a" + " ".repeat(994) + "^", SYNTAX);
        g.refusesMap("land a;" + "\n".repeat(986) + "land ^a;", DUPLICATE);
        Game told = new Game("land a;power p;army p a;");
        StringBuilder orders = new StringBuilder();
        for (int i = 0; i < 125; i++) {
            orders.append("a hold; ");
        }
        Check.equal("orders of 1000 bytes", 125, told.tell(orders.toString()));
        orders.setLength(999);
        told.refuses(orders + "^;", SYNTAX);
    }

    /** "length: number of bytes, 0 to the length of the buffer" */
    private static void lengthOfTheText() {
        Game g = orders();
        g.feed("b to a;a hold;#");
        for (int length : new int[] {-1, 21, 1000, Integer.MIN_VALUE, Integer.MAX_VALUE}) {
            Check.fails("tell of " + length, RANGE, () -> g.settler.tell(length));
            Check.fails("load of " + length, RANGE, () -> g.settler.load(length));
        }
        Check.equal("the first bytes alone", 1, g.settler.tell(7));
        Check.equal("the order", 1, g.settler.order(1, 0));
        Check.fails("the buffer is empty", RANGE, () -> g.settler.tell(1));
        g.feed("a to b;" + " ".repeat(13));
        Check.equal("all of the buffer", 1, g.settler.tell(20));
        g.feed("land z;" + " ".repeat(13));
        Check.equal("all of the buffer", 0, g.settler.load(20));
    }

    /** "{ X } means any number of X": also none. */
    private static void emptyTexts() {
        Game[] games = {new Game(), orders(), RetreatsTest.dislodged(), BuildsTest.building()};
        for (Game g : games) {
            Check.equal("no byte", 0, g.settler.tell(0));
            Check.equal("blanks", 0, g.tell(" \n"));
            Check.equal("no error", 0, g.settler.errorCode());
        }
        for (Game g : games) {
            Check.equal("an empty map", 0, g.settler.load(0));
            Check.equal("its areas", 0, g.settler.areas());
            Check.equal("a blank map", 0, g.load("\n \n"));
            Check.equal("its phase", 0, g.settler.phase());
        }
    }

    /** "A NAME is a word of 1 to 5 letters that is not a keyword" */
    private static void lettersOfNames() {
        for (String name : new String[] {"a", "z", "az", "lan", "zzzz", "zzzzz", "lands", "tos", "holds", "armys", "seas"}) {
            Game g = new Game();
            Check.equal("load of " + name, 1, g.load("land " + name + " center;power " + name + " " + name + ";army "
                    + name + " " + name + ";"));
            Check.equal("named " + name, 0, g.at(name));
            Check.equal("units", name + " A " + name + "\n", g.units());
        }
    }

    /** "a NAME that is a keyword or has more than 5 letters" */
    private static void wrongNames() {
        String[] wrong = {"abcdef", "aaaaaa", "zzzzzzz", "abcdefghijklmnopqrstuvwxyzabcdefghijklmnopqrstuvwxyz"};
        for (String name : wrong) {
            refuseEverywhere(name, SYNTAX, true);
        }
        for (String name : Model.KEYWORDS) {
            refuseEverywhere(name, SYNTAX, true);
        }
    }

    /** "a NAME of which there is no area (power, where one is wanted)" */
    private static void unknownNames() {
        // p is a power alone; aa, ab and ba only begin or end like an area.
        for (String name : new String[] {"g", "z", "aa", "ab", "ba", "zzzzz"}) {
            refuseEverywhere(name, UNKNOWN, false);
        }
        for (String map : new String[] {"border ^p a;", "border a ^p;", "power q ^p;", "army p ^p;", "army ^a a;",
            "army ^b d;"}) {
            new Game().refusesMap(AREAS + map, UNKNOWN);
        }
    }

    private static void refuseEverywhere(String name, int code, boolean newNames) {
        if (newNames) {
            for (String map : NEW_NAMES) {
                new Game().refusesMap(AREAS + map.replace("@", "^" + name), code);
            }
        }
        for (String map : MAP_NAMES) {
            new Game().refusesMap(AREAS + map.replace("@", "^" + name), code);
        }
        for (String text : ORDER_NAMES) {
            orders().refuses(text.replace("@", "^" + name), code);
        }
        for (String text : RETREAT_NAMES) {
            RetreatsTest.dislodged().refuses(text.replace("@", "^" + name), code);
        }
        for (String text : BUILD_NAMES) {
            BuildsTest.building().refuses(text.replace("@", "^" + name), code);
        }
    }

    private static String numbered(String before, int count, String behind) {
        StringBuilder text = new StringBuilder();
        for (int i = 0; i < count; i++) {
            text.append(before).append((char) ('a' + i)).append(behind);
        }
        return text.toString();
    }

    /** "There are at most 16 areas": "a statement by which there would be a 17th area" */
    private static void sixteenAreas() {
        String sixteen = numbered("coast x", 16, ";");
        Game g = new Game(sixteen);
        Check.equal("areas", 16, g.settler.areas());
        Check.equal("the last one", 15, g.at("xp"));
        Check.equal("its kind", 1, g.settler.area(15, 0));
        Check.fails("no other one", java.util.NoSuchElementException.class, () -> g.settler.area(16, 0));
        for (String word : new String[] {"land", "coast", "sea"}) {
            new Game().refusesMap(sixteen + "^" + word + " y;", LIMIT);
            new Game().refusesMap(sixteen + "border xa xb;^" + word + " y;", LIMIT);
        }
        Check.equal("other statements", 1, g.load(sixteen + "border xa xp;power p;army p xp;"));
    }

    /** "4 powers": "a 5th power" */
    private static void fourPowers() {
        String four = "land a center;" + numbered("power x", 4, ";");
        Game g = new Game(four);
        Check.equal("powers", 4, g.settler.powers());
        Check.equal("the last one's units", 0, g.settler.power(3, 1));
        Check.fails("no other one", java.util.NoSuchElementException.class, () -> g.settler.power(4, 1));
        new Game().refusesMap(four + "^power y;", LIMIT);
        new Game().refusesMap(four + "^power y a;", LIMIT);
        Check.equal("other statements", 1, g.load(four + "army xd a;"));
        Check.equal("the last one's unit", 3, g.settler.area(0, 4));
    }

    /** "12 units at any time": "a 13th unit" */
    private static void twelveUnits() {
        String areas = numbered("coast ", 16, ";") + "power p;power q;";
        String twelve = numbered("army p ", 6, ";") + "fleet q g;fleet q h;fleet q i;fleet q j;army q k;army p p;";
        Game g = new Game(areas + twelve);
        Check.equal("units of p", 7, g.settler.power(0, 1));
        Check.equal("units of q", 5, g.settler.power(1, 1));
        Check.equal("load answers their number", 12, g.load(areas + twelve));
        new Game().refusesMap(areas + twelve + "^army p l;", LIMIT);
        new Game().refusesMap(areas + twelve + "^fleet q l;", LIMIT);
        Check.equal("one less", 11, g.load(areas + twelve.replace("army p p;", "")));
        Check.equal("no unit", 0, g.load(areas));
    }

    /** "The error with the least position": the first word of a statement stands before all else in it. */
    private static void limitBeforeOtherErrors() {
        String areas = numbered("land ", 16, ";");
        new Game().refusesMap(areas + "^land a;", LIMIT);
        new Game().refusesMap(areas + "^sea q center;", LIMIT);
        new Game().refusesMap(areas + "^land abcdef;", LIMIT);
        String powers = areas + numbered("power x", 4, ";");
        new Game().refusesMap(powers + "^power xa;", LIMIT);
        new Game().refusesMap(powers + "^power y z;", LIMIT);
        String units = powers + numbered("army xa ", 12, ";");
        new Game().refusesMap(units + "^army xa a;", LIMIT);
        new Game().refusesMap(units + "^fleet xa p;", LIMIT);
        new Game().refusesMap(units + "^army xx a;", LIMIT);
        // An error before it is told instead.
        new Game().refusesMap(areas + "border a ^a;land q;", DUPLICATE);
    }

    /** "A home of a power is a center that is no home of a power before; at first, it belongs to this power" */
    private static void homesOnce() {
        String centers = numbered("land ", 16, " center;");
        String all = numbered(" ", 16, "");
        Game g = new Game(centers + "power p" + all + ";");
        Check.equal("all homes", 16, g.settler.power(0, 2));
        Check.equal("all centers", 16, g.settler.power(0, 0));
        Check.equal("the last home", 0, g.settler.area(15, 2));
        Check.equal("its owner", 0, g.settler.area(15, 3));
        new Game().refusesMap(centers + "power p" + all + " ^a;", DUPLICATE);
        new Game().refusesMap(centers + "power p a;power q b ^a;", DUPLICATE);
        new Game().refusesMap(centers + "power p a b ^b;", DUPLICATE);
        new Game().refusesMap("land a center;land b;power p a ^b;", FORBIDDEN);
        Game none = new Game(centers + "power p;");
        Check.equal("no home", 0, none.settler.power(0, 2));
        Check.equal("no owner", -1, none.settler.area(15, 3));
    }

    /** "Areas that border let armies pass from one to the other ... if both are land or coast and the border is not told with fleet" */
    private static void borders() {
        String[] kinds = {"land", "coast", "sea"};
        String[] told = {"", " army", " fleet"};
        for (String one : kinds) {
            for (String other : kinds) {
                for (String only : told) {
                    checkBorder(one, other, only);
                }
            }
        }
    }

    private static void checkBorder(String one, String other, String only) {
        boolean armies = !one.equals("sea") && !other.equals("sea") && !only.equals(" fleet");
        boolean fleets = !one.equals("land") && !other.equals("land") && !only.equals(" army");
        String areas = one + " a;" + other + " b;border a ";
        if (!armies && !fleets) {
            new Game().refusesMap(areas + (only.isEmpty() ? "^b;" : "b ^" + only.substring(1) + ";"), FORBIDDEN);
            return;
        }
        Game g = new Game(areas + "b" + only + ";");
        String what = one + " " + other + only;
        for (int from = 0; from < 2; from++) {
            Check.equal("armies, " + what, armies ? 1 : 0, g.settler.passes(from, 1 - from, false) ? 1 : 0);
            Check.equal("fleets, " + what, fleets ? 1 : 0, g.settler.passes(from, 1 - from, true) ? 1 : 0);
            Check.isFalse("to itself, " + what, g.settler.passes(from, from, false) || g.settler.passes(from, from, true));
        }
    }

    /** "Two areas border once at most." */
    private static void bordersOnce() {
        String[] areas = {"land a;land b;", "land a;coast b;", "coast a;coast b;", "coast a;sea b;", "sea a;sea b;"};
        for (String map : areas) {
            new Game().refusesMap(map + "border a b;border a ^b;", DUPLICATE);
            new Game().refusesMap(map + "border a b;border b ^a;", DUPLICATE);
            new Game().refusesMap(map + "border a b;border a ^b army;", DUPLICATE);
            new Game().refusesMap(map + "border b a;border a ^b fleet;", DUPLICATE);
            new Game().refusesMap(map + "border a ^a;", DUPLICATE);
            new Game().refusesMap(map + "border b ^b army;", DUPLICATE);
        }
        String coasts = "coast a;coast b;";
        for (String first : new String[] {"", " army", " fleet"}) {
            for (String second : new String[] {"", " army", " fleet"}) {
                new Game().refusesMap(coasts + "border a b" + first + ";border a ^b" + second + ";", DUPLICATE);
                new Game().refusesMap(coasts + "border a b" + first + ";border b ^a" + second + ";", DUPLICATE);
            }
        }
        // Borders of the first and the last of 16 areas.
        String sixteen = numbered("land ", 16, ";");
        new Game().refusesMap(sixteen + "border a p;border p ^a;", DUPLICATE);
        new Game().refusesMap(sixteen + "border p o;border o ^p;", DUPLICATE);
    }

    /** "Spaces (byte 32) and line feeds (byte 10) may stand between any two tokens and at both ends." */
    private static void blanks() {
        String map = "coast a center ; coast b ; sea c ; border a b army ; border b c fleet ; power p a ; army p a ; fleet p c ;";
        for (String gap : new String[] {" ", "\n", "  ", " \n", "\n\n "}) {
            Game g = new Game(gap + map.replace(" ", gap) + gap);
            Check.equal("areas", 3, g.settler.areas());
            Check.equal("units", "p A a\np F c\n", g.units());
            String orders = "a to b ; c convoy a to b ; a hold ;";
            Check.equal("orders", 3, g.tell(gap + orders.replace(" ", gap) + gap));
        }
        // None are needed at the sign ; and a word is as long as possible.
        Check.equal("no blanks at the signs", 2, new Game().load(map.replace(" ;", ";").replace("; ", ";")));
        new Game().refusesMap("^landa;", SYNTAX);
        new Game().refusesMap("land a;land b;border ^ab;", UNKNOWN);
        new Game().refusesMap("land a;^center;", SYNTAX);
    }

    /** "any other byte" */
    private static void everyByte() {
        for (int b = 0; b < 256; b++) {
            byte[] bytes = "land a ;".getBytes();
            bytes[6] = (byte) b;
            OrderSettler x = new OrderSettler();
            Game.feed(x, bytes);
            boolean allowed = b == ' ' || b == '\n' || b >= 'a' && b <= 'z';
            String got = Check.outcomeOf(() -> x.load(8));
            Check.equal("byte " + b, allowed ? "0" : STATE.getName(), got);
            // Behind a sign ; that ends the statement the next one is too many.
            Check.equal("position of byte " + b, allowed ? -1 : b == ';' ? 7 : 6, x.errorPosition());
            Check.equal("code of byte " + b, allowed ? 0 : SYNTAX, x.errorCode());
        }
    }

    /** "the end of the text where more is needed (position: the length)" */
    private static void endOfTheText() {
        String map = "coast a center ; coast b ; coast c ; sea s ; border a b army ; border b c ; border s a fleet ; "
                + "border a c ; power p a ; army p a ; army p b ; fleet p s ;";
        for (String part : unendedParts(map)) {
            new Game().refusesMap(part + "^", SYNTAX);
            new Game().refusesMap(part + " \n^", SYNTAX);
        }
        for (String part : unendedParts("a to b ; a support b ; a support b to c ; s convoy a to b ; a hold ;")) {
            new Game(map).refuses(part + "^", SYNTAX);
            new Game(map).refuses(part + " \n^", SYNTAX);
        }
        for (String part : unendedParts("b disband ; b to d ;")) {
            RetreatsTest.dislodged().refuses(part + "^", SYNTAX);
        }
        for (String part : unendedParts("build a army ; build c fleet ;")) {
            BuildsTest.building().refuses(part + "^", SYNTAX);
        }
    }

    /** The beginnings of a text that end behind a token which is no sign. */
    private static List<String> unendedParts(String text) {
        List<String> parts = new ArrayList<>();
        StringBuilder part = new StringBuilder();
        for (String token : text.split(" ")) {
            part.append(part.length() == 0 ? "" : " ").append(token);
            if (!token.equals(";")) {
                parts.add(part.toString());
            }
        }
        return parts;
    }

    /** "of several at one position the least code" */
    private static void leastCodeAtOnePosition() {
        // DUPLICATE before FORBIDDEN: the area of a unit where there is one and its kind cannot be.
        new Game().refusesMap("sea a;power p;fleet p a;army p ^a;", DUPLICATE);
        new Game().refusesMap("land a;power p;army p a;fleet p ^a;", DUPLICATE);
        // SYNTAX before UNKNOWN: a long NAME that no area has.
        new Game().refusesMap("power p ^abcdef;", SYNTAX);
        // DUPLICATE before FORBIDDEN at the NAME behind build: a unit is there, and its power needs none.
        BuildsTest.building().refuses("build ^f army;", DUPLICATE);
        // UNKNOWN before FORBIDDEN at the NAME behind remove: no unit is there, so none need be removed.
        BuildsTest.building().refuses("remove ^a;", UNKNOWN);
        // UNKNOWN before FORBIDDEN at the last NAME of an order.
        orders().refuses("a to ^x;", UNKNOWN);
        orders().refuses("c support a to ^x;", UNKNOWN);
    }

    /** "A text is carried out as a whole or not at all." */
    private static void wholeOrNotAtAll() {
        Game g = orders();
        g.tell("a to b;c convoy a to b;");
        String orders = g.orders();
        g.refuses("a hold;b to a;c hold;b ^center;", SYNTAX);
        Check.equal("orders", orders, g.orders());
        Game retreats = RetreatsTest.dislodged();
        retreats.tell("b to d;");
        retreats.refuses("b to e;b disband^", SYNTAX);
        retreats.settler.endRetreats();
        Check.equal("the retreat that was told before", 1, retreats.settler.area(3, 4));
        Game builds = BuildsTest.building();
        builds.refuses("build a army;build b army;^x;", SYNTAX);
        Check.equal("no builds", "q A e\np A f\n", builds.units());
        Game map = new Game("land a;power p;army p a;");
        map.refusesMap("coast x;sea y;power q;power r;army q x;^x;", SYNTAX);
        Check.equal("areas", 1, map.settler.areas());
        Check.equal("powers", 1, map.settler.powers());
        Check.equal("kind", 0, map.settler.area(0, 0));
        Check.equal("units", "p A a\n", map.units());
    }

    /** "the code of the error found by the latest call of load() or tell() that parsed a text" */
    private static void latestError() {
        Game g = orders();
        g.refuses("a hold;^x hold;", UNKNOWN);
        Check.fails("no text is parsed", RANGE, () -> g.settler.tell(1));
        Check.fails("nor is a map", RANGE, () -> g.settler.load(-1));
        Check.equal("errorCode", UNKNOWN, g.settler.errorCode());
        Check.equal("errorPosition", 7, g.settler.errorPosition());
        g.refusesMap("^x;", SYNTAX);
        g.refuses("a to ^a;", FORBIDDEN);
        g.settler.settle();
        g.feed("a");
        g.settler.named(1);
        Check.equal("no other call changes it", FORBIDDEN, g.settler.errorCode());
        Check.equal("nor the position", 5, g.settler.errorPosition());
        g.tell("a hold;");
        Check.equal("errorCode of a good text", 0, g.settler.errorCode());
        Check.equal("errorPosition of a good text", -1, g.settler.errorPosition());
        g.refuses("a to^", SYNTAX);
        g.load("land a;");
        Check.equal("errorCode of a good map", 0, g.settler.errorCode());
        Check.equal("errorPosition of a good map", -1, g.settler.errorPosition());
    }

    /** "Finds an area whose name is the first length bytes of the buffer, which is emptied then." */
    private static void namesOfAreas() {
        Game g = new Game(numbered("land ", 14, ";") + "land aa;land zzzzz;power pp;");
        Check.equal("the first area", 0, g.at("a"));
        Check.equal("the last area", 15, g.at("zzzzz"));
        Check.equal("of two letters", 14, g.at("aa"));
        // Other bytes are no letters, whatever their numbers are.
        for (String name : new String[] {"`a", "bA", "a`", "A", "aA", "`aa", "aaa", "zzzz", "zzzzzz", "yzzzzz", "pp",
            " aa", "aa ", "aa;", "\u0001", "\u00e1", "azzzzz", "{", "dzzzzzz", "aaaaaaaaaaaaaaaa"}) {
            Check.fails("named " + name, java.util.NoSuchElementException.class, () -> g.at(name));
            Check.fails("the buffer is empty", RANGE, () -> g.settler.named(1));
        }
        g.feed("aab");
        Check.fails("named of 0", RANGE, () -> g.settler.named(0));
        Check.fails("named of 21", RANGE, () -> g.settler.named(21));
        Check.equal("the first bytes alone", 14, g.settler.named(2));
        Check.fails("the buffer is empty", RANGE, () -> g.settler.named(1));
    }

    /** "No two areas have the same name, and no two powers": an area and a power may, whichever is told first. */
    private static void namesOfAreasAndPowers() {
        Game g = new Game();
        Check.equal("powers first", 2, g.load("power p;power q;land q center;land p;border p q;army q p;army p q;"));
        Check.equal("units", "p A q\nq A p\n", g.units());
        Check.equal("the area", 1, g.at("p"));
        Check.equal("told", 1, g.tell("p to q;"));
        Check.equal("orders", "q hold;\np to q;\n", g.orders());
        Check.equal("areas first", 1, g.load("land a center;land b;power b a;power a;army a b;"));
        Check.equal("units", "a A b\n", g.units());
        Check.equal("home", 0, g.settler.area(0, 2));
        g.refusesMap("power p;power q;land p;power ^p;", DUPLICATE);
        g.refusesMap("power p;land p;land ^p;", DUPLICATE);
    }
}
