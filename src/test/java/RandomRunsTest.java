import java.nio.charset.StandardCharsets;
import java.util.ArrayList;
import java.util.List;
import java.util.Map;
import java.util.Random;
import java.util.TreeMap;

/**
 * Runs of random calls on the program and on the Model, which must answer alike.
 * Arguments, if any: the number of runs and the first seed.
 */
final class RandomRunsTest {
    private static final int MOST_CALLS = 512;

    private final Random random;
    private final long seed;
    private final OrderSettler settler = new OrderSettler();
    private final Model model = new Model();
    private final Map<String, Integer> seen;
    private final StringBuilder story = new StringBuilder();
    private int calls = 0;
    private boolean differs = false;

    private RandomRunsTest(long seed, Map<String, Integer> seen) {
        this.seed = seed;
        this.random = new Random(seed);
        this.seen = seen;
    }

    public static void main(String[] args) {
        int runs = args.length > 0 ? Integer.parseInt(args[0]) : 1500;
        long first = args.length > 1 ? Long.parseLong(args[1]) : 1;
        Map<String, Integer> seen = new TreeMap<>();
        for (long seed = first; seed < first + runs; seed++) {
            new RandomRunsTest(seed, seen).run();
        }
        System.out.println(seen);
        String[] wanted = {"consistent 1", "consistent 2", "no sea paths", "dislodged", "error 1",
            "error 2", "error 3", "error 4", "error 5", "builds", "retreat kept", "retreat lost", "by sea",
            "retreats told", "builds told", "undone"};
        for (String what : wanted) {
            if (!seen.containsKey(what)) {
                Check.complain("the runs never met: " + what);
            }
        }
        Check.end("RandomRunsTest");
    }

    private boolean chance(int percent) {
        return random.nextInt(100) < percent;
    }

    private <T> T any(List<T> list) {
        return list.get(random.nextInt(list.size()));
    }

    private void count(String what) {
        seen.merge(what, 1, Integer::sum);
    }

    /** Makes a call on both, which must answer alike. */
    private String compare(String what, Check.Call mine, Check.Call due) {
        if (calls >= MOST_CALLS || differs) {
            return "";
        }
        calls++;
        String want = Check.outcomeOf(due);
        String got = Check.outcomeOf(mine);
        story.append(what).append(" -> ").append(want).append('\n');
        Check.equal("seed " + seed + ", call " + calls + ", " + what, want, got);
        if (!want.equals(got)) {
            differs = true;
            System.out.println(story);
        }
        return want;
    }

    private void run() {
        loadMap();
        int rounds = 5 + random.nextInt(40);
        for (int i = 0; i < rounds && calls < MOST_CALLS && !differs; i++) {
            if (chance(30)) {
                fight();
            }
            int choice = random.nextInt(100);
            if (choice < 35) {
                tellSomething();
            } else if (choice < 60) {
                closePhase();
            } else if (choice < 66) {
                if (compare("undo", settler::undo, model::undo).matches("\\d+")) {
                    count("undone");
                }
            } else if (choice < 68) {
                loadMap();
            } else {
                ask();
                ask();
            }
            if (chance(50)) {
                askForState();
            }
        }
        askForEverything();
    }

    /** Settles orders and undoes that, so that the units stay for another fight. */
    private void fight() {
        if (model.world.phase != 0) {
            return;
        }
        if (model.world.units.size() < 3) {
            loadMap();
        }
        closePhase();
        for (Model.Area a : model.world.areas) {
            int area = model.world.number(a.name);
            compare("isContested " + area, () -> settler.isContested(area) ? 1 : 0, () -> model.isContested(area) ? 1 : 0);
            for (int what = 0; what < 6; what++) {
                int report = what;
                compare("result " + area + what, () -> settler.result(area, report), () -> model.result(area, report));
            }
        }
        askForState();
        if (chance(70)) {
            compare("undo", settler::undo, model::undo);
        }
    }

    // ---- texts

    private void feed(String text) {
        byte[] bytes = text.getBytes(StandardCharsets.ISO_8859_1);
        for (int i = 0; i < bytes.length; i += 20) {
            int[] w = new int[5];
            for (int k = 0; k < 5; k++) {
                w[k] = Game.word(bytes, i + 4 * k);
            }
            compare("feed", () -> settler.feed(w[0], w[1], w[2], w[3], w[4]), () -> model.feed(w));
        }
    }

    private void parse(boolean map, String text) {
        feed(text);
        int length = chance(95) ? text.length() : random.nextInt(1050) - 20;
        story.append(text).append('\n');
        if (map) {
            compare("load " + length, () -> settler.load(length), () -> model.load(length));
        } else {
            compare("tell " + length, () -> settler.tell(length), () -> model.tell(length));
        }
        compare("errorCode", settler::errorCode, () -> model.errorCode);
        compare("errorPosition", settler::errorPosition, () -> model.errorPosition);
        count("error " + model.errorCode);
    }

    /** Now and then a text with something changed. */
    private String spoil(String text) {
        if (chance(80) || text.isEmpty()) {
            return text;
        }
        StringBuilder spoilt = new StringBuilder(text);
        int at = random.nextInt(text.length());
        switch (random.nextInt(5)) {
            case 0:
                return text.substring(0, at);
            case 1:
                spoilt.deleteCharAt(at);
                break;
            case 2:
                spoilt.setCharAt(at, any(List.of(' ', ';', '\n', '\t', 'a', 'b', 'z', 'A', '{', '`', (char) 233)));
                break;
            case 3:
                spoilt.insert(at, ' ' + any(Model.KEYWORDS) + ' ');
                break;
            default:
                spoilt.insert(at, any(List.of(";", "; ", " a ", " xxxxxx ", "\n\n", " b;")));
                break;
        }
        return spoilt.toString();
    }

    private String gap() {
        return chance(90) ? " " : any(List.of("  ", "\n", " \n "));
    }

    private void loadMap() {
        parse(true, spoil(randomMap()));
        if (model.world.areas.isEmpty() && chance(90)) {
            parse(true, randomMap());
        }
    }

    private static String name(int number) {
        return number < 8 ? "" + (char) ('a' + number) : "zz" + (char) ('a' + number);
    }

    /** Few areas, full of units that have to go by sea: this is where paradoxes come from. */
    private String arena() {
        int coasts = 3 + random.nextInt(4);
        int areas = coasts + 1 + random.nextInt(3);
        StringBuilder text = new StringBuilder();
        for (int a = 0; a < areas; a++) {
            text.append(a < coasts ? "coast " : "sea ").append(name(a)).append(a < coasts ? " center;" : ";");
        }
        for (int a = 0; a < areas; a++) {
            for (int b = a + 1; b < areas; b++) {
                if (chance(90)) {
                    text.append("border ").append(name(a)).append(' ').append(name(b))
                            .append(b < coasts && chance(80) ? " fleet;" : ";");
                }
            }
        }
        text.append("power pa;power pb;power pc;");
        for (int a = 0; a < areas; a++) {
            if (chance(85)) {
                text.append(a < coasts && chance(50) ? "army p" : "fleet p").append((char) ('a' + random.nextInt(3)))
                        .append(' ').append(name(a)).append(";");
            }
        }
        return text.toString();
    }

    private String randomMap() {
        if (chance(30)) {
            return arena();
        }
        int areas = chance(5) ? random.nextInt(19) : 3 + random.nextInt(chance(30) ? 14 : 7);
        int density = chance(20) ? 100 : 30 + random.nextInt(70);
        int seaShare = random.nextInt(70);
        boolean islands = chance(40);
        int centerShare = 20 + random.nextInt(80);
        String[] kinds = new String[areas];
        StringBuilder text = new StringBuilder();
        List<String> centers = new ArrayList<>();
        for (int a = 0; a < areas; a++) {
            kinds[a] = chance(seaShare) ? "sea" : chance(85) ? "coast" : "land";
            boolean center = !kinds[a].equals("sea") && chance(centerShare) || chance(1);
            text.append(kinds[a]).append(gap()).append(name(chance(1) ? random.nextInt(areas) : a))
                    .append(center ? " center;" : ";");
            if (center) {
                centers.add(name(a));
            }
        }
        for (int a = 0; a < areas; a++) {
            for (int b = a + 1; b < areas; b++) {
                boolean none = kinds[a].equals("sea") && kinds[b].equals("land")
                        || kinds[b].equals("sea") && kinds[a].equals("land");
                if (chance(density) && (!none || chance(1)) && text.length() < 780) {
                    boolean coasts = kinds[a].equals("coast") && kinds[b].equals("coast");
                    boolean told = coasts && (islands || chance(30)) || chance(1);
                    String only = !told ? "" : islands || chance(50) ? " fleet" : " army";
                    text.append("border ").append(name(a)).append(' ').append(name(b)).append(only).append(";");
                }
            }
        }
        return text + randomPowers(areas, kinds, centers, islands);
    }

    private String randomPowers(int areas, String[] kinds, List<String> centers, boolean islands) {
        StringBuilder text = new StringBuilder();
        int powers = chance(3) ? 5 : 1 + random.nextInt(4);
        for (int p = 0; p < powers; p++) {
            text.append("power p").append((char) ('a' + p));
            for (int i = random.nextInt(4); i > 0 && !centers.isEmpty(); i--) {
                String home = any(centers);
                text.append(' ').append(home);
                if (!chance(2)) {
                    centers.remove(home);
                }
            }
            text.append(";");
        }
        int share = 40 + random.nextInt(60);
        int units = 0;
        int most = chance(10) ? 13 : 8;
        for (int a = 0; a < areas && units < most; a++) {
            if (chance(share)) {
                boolean fleet = kinds[a].equals("sea") || kinds[a].equals("coast") && chance(islands ? 50 : 25);
                text.append(fleet ? "fleet p" : "army p").append((char) ('a' + random.nextInt(powers)))
                        .append(' ').append(name(chance(1) ? random.nextInt(areas) : a)).append(";");
                units++;
            }
        }
        return text.toString();
    }

    private void tellSomething() {
        String text;
        if (chance(10) || model.world.areas.isEmpty()) {
            text = randomWords();
        } else if (model.world.phase == 0) {
            text = randomOrders();
        } else if (model.world.phase == 1) {
            text = randomRetreats();
            count("retreats told");
        } else {
            text = randomBuilds();
            count("builds told");
        }
        parse(false, spoil(text));
    }

    private String areaName() {
        return name(random.nextInt(Math.max(1, model.world.areas.size() + (chance(3) ? 1 : 0))));
    }

    private String randomWords() {
        StringBuilder text = new StringBuilder();
        for (int i = random.nextInt(4); i > 0; i--) {
            String one = areaName();
            switch (random.nextInt(7)) {
                case 0:
                    text.append(one).append(" hold;");
                    break;
                case 1:
                    text.append(one).append(" to ").append(areaName()).append(";");
                    break;
                case 2:
                    text.append(one).append(" support ").append(areaName()).append(";");
                    break;
                case 3:
                    text.append(one).append(" support ").append(areaName()).append(" to ").append(areaName())
                            .append(";");
                    break;
                case 4:
                    text.append(one).append(" convoy ").append(areaName()).append(" to ").append(areaName())
                            .append(";");
                    break;
                case 5:
                    text.append("build ").append(one).append(chance(50) ? " army;" : " fleet;");
                    break;
                default:
                    text.append(chance(50) ? "remove " + one : one + " disband").append(";");
                    break;
            }
        }
        return text.toString();
    }

    /** Orders that have much to do with each other. */
    private String randomOrders() {
        Model.World w = model.world.copy();
        StringBuilder text = new StringBuilder();
        int moving = 20 + random.nextInt(70);
        for (Model.Unit u : w.units) {
            List<String> goals = new ArrayList<>();
            for (Model.Area a : w.areas) {
                if (w.mayMove(u, a.name)) {
                    goals.add(a.name);
                    if (!w.passes(u.area, a.name, u.fleet) || w.unitAt(a.name) != null) {
                        goals.add(a.name);
                    }
                }
            }
            if (!goals.isEmpty() && chance(moving)) {
                u.order = "to";
                u.first = any(goals);
                text.append(u.area).append(gap()).append("to").append(gap()).append(u.first).append(";");
            }
        }
        for (Model.Unit u : w.units) {
            List<String> orders = u.order.equals("to") ? new ArrayList<>() : backing(w, u);
            if (!orders.isEmpty() && chance(90)) {
                text.append(u.area).append(' ').append(any(orders)).append(";").append(chance(10) ? gap() : "");
            }
        }
        if (chance(40)) {
            text.append(storm());
        }
        return text.toString();
    }

    /** Orders that make a convoy hang on a support which the convoyed army may cut. */
    private String storm() {
        Model.World w = model.world;
        List<Model.Unit> armies = new ArrayList<>();
        List<Model.Unit> fleets = new ArrayList<>();
        for (Model.Unit u : w.units) {
            if (!u.fleet && w.isCoast(u.area)) {
                armies.add(u);
            }
            if (u.fleet && w.area(u.area).kind.equals("sea")) {
                fleets.add(u);
            }
        }
        StringBuilder text = new StringBuilder();
        for (Model.Unit f : fleets) {
            if (armies.isEmpty() || chance(40)) {
                continue;
            }
            Model.Unit army = any(armies);
            Model.Unit target = any(w.units);
            Model.Unit foe = any(w.units);
            Model.Unit helper = any(w.units);
            if (!w.mayMove(army, target.area) || !w.isCoast(target.area) || w.passes(army.area, target.area, false)) {
                continue;
            }
            text.append(army.area).append(" to ").append(target.area).append(";");
            text.append(f.area).append(" convoy ").append(army.area).append(" to ").append(target.area).append(";");
            if (foe == f || foe == army || foe == target || !w.passes(foe.area, f.area, foe.fleet)) {
                continue;
            }
            text.append(foe.area).append(" to ").append(f.area).append(";");
            if (w.passes(target.area, f.area, target.fleet) && target != f) {
                text.append(target.area).append(" support ").append(chance(60) ? "" : foe.area + " to ").append(f.area)
                        .append(";");
            }
            if (helper != f && helper != army && helper != target && helper != foe
                    && w.passes(helper.area, f.area, helper.fleet)) {
                text.append(helper.area).append(" support ").append(foe.area).append(" to ").append(f.area).append(";");
            }
        }
        return text.toString();
    }

    private List<String> backing(Model.World w, Model.Unit u) {
        List<String> orders = new ArrayList<>();
        for (Model.Unit v : w.units) {
            boolean moves = v.order.equals("to");
            if (v != u && moves && w.passes(u.area, v.first, u.fleet)) {
                orders.add("support " + v.area + " to " + v.first);
            }
            if (v != u && (!moves || chance(5)) && w.passes(u.area, v.area, u.fleet)) {
                orders.add("support " + v.area);
            }
            boolean sails = moves && !w.passes(v.area, v.first, v.fleet);
            if (u.fleet && w.area(u.area).kind.equals("sea") && sails) {
                for (int i = 0; i < 3; i++) {
                    orders.add("convoy " + v.area + " to " + v.first);
                }
            }
        }
        return orders;
    }

    private String randomRetreats() {
        StringBuilder text = new StringBuilder();
        for (Model.Unit u : model.world.dislodged) {
            List<String> goals = new ArrayList<>();
            for (Model.Area a : model.world.areas) {
                if (model.world.mayRetreat(u, a.name) || chance(2)) {
                    goals.add(a.name);
                }
            }
            text.append(u.area);
            text.append(goals.isEmpty() || chance(10) ? " disband" : " to " + any(goals)).append(";");
        }
        return text.toString();
    }

    private String randomBuilds() {
        StringBuilder text = new StringBuilder();
        for (Model.Area a : model.world.areas) {
            Model.Unit u = model.world.unitAt(a.name);
            if (u == null && a.home >= 0 && a.home == a.owner && (model.world.builds(a.home) > 0 && chance(70)
                    || chance(2))) {
                text.append("build ").append(a.name).append(chance(60) ? " army;" : " fleet;");
            }
            if (u != null && (model.world.builds(u.power) < 0 && chance(40) || chance(1))) {
                text.append("remove ").append(a.name).append(";");
            }
        }
        return text.toString();
    }

    // ---- calls

    private void closePhase() {
        int phase = model.world.phase;
        if (chance(4)) {
            phase = random.nextInt(3);
        }
        switch (phase) {
            case 0:
                if (chance(85) && model.world.phase == 0) {
                    parse(false, randomOrders());
                }
                if (compare("settle", settler::settle, model::settle).matches("\\d+")) {
                    noteSettling();
                }
                break;
            case 1:
                if (chance(50) && model.world.phase == 1) {
                    parse(false, randomRetreats());
                }
                int before = model.world.dislodged.size();
                String gone = compare("endRetreats", settler::endRetreats, model::endRetreats);
                if (gone.matches("\\d+")) {
                    count(Integer.parseInt(gone) < before ? "retreat kept" : "retreat lost");
                }
                break;
            default:
                compare("endBuilds", settler::endBuilds, model::endBuilds);
                break;
        }
        count(model.world.phase == 2 ? "builds" : model.world.phase == 1 ? "retreats" : "orders");
    }

    private void noteSettling() {
        Model.Settling s = model.world.latest;
        count(s.rule);
        if (s.consistent > 0) {
            count("consistent " + s.consistent);
        }
        if (!model.world.dislodged.isEmpty()) {
            count("dislodged");
        }
        for (Model.Area a : s.world.areas) {
            if (s.result(a.name, 5) == 1) {
                count("by sea");
            }
        }
    }

    private int number(int beyond) {
        return chance(4) ? any(List.of(-1, beyond, Integer.MIN_VALUE, Integer.MAX_VALUE, 31, 32, 33, 16))
                : random.nextInt(Math.max(1, beyond));
    }

    private void ask() {
        int a = number(model.world.areas.size());
        int b = number(model.world.areas.size());
        int p = number(model.world.powers.size());
        boolean flag = chance(50);
        String with = "(" + a + ", " + b + ", " + p + ", " + flag + ")";
        int what = number(8);
        switch (random.nextInt(17)) {
            case 0:
                compare("passes" + with, () -> settler.passes(a, b, flag) ? 1 : 0, () -> model.passes(a, b, flag) ? 1 : 0);
                break;
            case 1:
                compare("distance" + with, () -> settler.distance(a, b, flag), () -> model.distance(a, b, flag));
                break;
            case 2:
                compare("mayRetreat" + with, () -> settler.mayRetreat(a, b) ? 1 : 0, () -> model.mayRetreat(a, b) ? 1 : 0);
                break;
            case 3:
            case 4:
                compare("foresee" + with + what, () -> settler.foresee(a, what), () -> model.foresee(a, what));
                break;
            case 5:
            case 6:
                compare("foreseeMove" + with, () -> settler.foreseeMove(a, b), () -> model.foreseeMove(a, b));
                break;
            case 7:
                compare("reach" + with, () -> settler.reach(a, p, flag), () -> model.reach(a, p, flag));
                break;
            case 8:
                compare("isThreatened" + with, () -> settler.isThreatened(a) ? 1 : 0, () -> model.isThreatened(a) ? 1 : 0);
                break;
            case 9:
                compare("shareBits" + with, () -> settler.shareBits(p), () -> Float.floatToIntBits(model.share(p)));
                compare("share" + with, () -> Float.floatToIntBits(settler.share(p)),
                        () -> Float.floatToIntBits(model.share(p)));
                break;
            case 10:
                compare("leader", settler::leader, model::leader);
                compare("unevennessBits", settler::unevennessBits, () -> Double.doubleToLongBits(model.unevenness()));
                compare("unevenness", () -> Double.doubleToLongBits(settler.unevenness()),
                        () -> Double.doubleToLongBits(model.unevenness()));
                break;
            case 11:
                writeOut("writeUnits", settler::writeUnits, model::writeUnits);
                break;
            case 12:
                writeOut("writeOrders", settler::writeOrders, model::writeOrders);
                break;
            case 13:
                askForName();
                break;
            case 14:
                compare("order" + with + what, () -> settler.order(a, what), () -> model.order(a, what));
                compare("result" + with + what, () -> settler.result(a, what), () -> model.result(a, what));
                break;
            case 15:
                compare("isContested" + with, () -> settler.isContested(a) ? 1 : 0, () -> model.isContested(a) ? 1 : 0);
                compare("power" + with + what, () -> settler.power(p, what), () -> model.power(p, what));
                break;
            default:
                feed(chance(3) ? "x".repeat(1000) : "a to ");
                break;
        }
    }

    private void askForName() {
        String name = chance(85) ? areaName() : any(List.of("", "q", "A", "a ", "abcdef", "zz", "sea", "\u00e9"));
        if (chance(90)) {
            parse(false, "");
        }
        feed(name);
        int length = chance(90) ? name.length() : random.nextInt(60) - 20;
        compare("named " + length + name, () -> settler.named(length), () -> model.named(length));
    }

    private void writeOut(String what, Check.Call mine, Check.Call due) {
        compare(what, mine, due);
        int at = random.nextInt(model.output.length() + 2) - 1;
        compare("outputByte " + at, () -> settler.outputByte(at), () -> model.outputByte(at));
    }

    /** A small part of the state. */
    private void askForState() {
        compare("phase", settler::phase, () -> model.world.phase);
        compare("turn", settler::turn, () -> model.world.turn);
        compare("undoCount", settler::undoCount, () -> model.past.size());
        compare("outcomes", settler::outcomes, model::outcomes);
        int a = number(model.world.areas.size());
        int what = number(8);
        compare("area " + a + " " + what, () -> settler.area(a, what), () -> model.area(a, what));
        compare("result " + a + " " + what, () -> settler.result(a, what), () -> model.result(a, what));
    }

    /** As much of the state as the calls that are left can tell. */
    private void askForEverything() {
        compare("areas", settler::areas, () -> model.world.areas.size());
        compare("powers", settler::powers, () -> model.world.powers.size());
        askForState();
        for (int what = 2; what < 8; what++) {
            for (int a = 0; a < model.world.areas.size(); a++) {
                int area = a;
                int report = what;
                compare("area " + a + " " + what, () -> settler.area(area, report), () -> model.area(area, report));
                compare("result " + a + " " + what, () -> settler.result(area, report - 2),
                        () -> model.result(area, report - 2));
            }
        }
        for (int p = 0; p < model.world.powers.size(); p++) {
            int power = p;
            for (int what = 0; what < 4; what++) {
                int report = what;
                compare("power " + p, () -> settler.power(power, report), () -> model.power(power, report));
            }
        }
        compare("writeOrders", settler::writeOrders, model::writeOrders);
        for (int i = 0; i < model.output.length(); i++) {
            int at = i;
            compare("outputByte " + at, () -> settler.outputByte(at), () -> model.outputByte(at));
        }
    }
}
