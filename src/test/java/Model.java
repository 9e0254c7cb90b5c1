import java.util.ArrayList;
import java.util.Arrays;
import java.util.Comparator;
import java.util.HashSet;
import java.util.LinkedList;
import java.util.List;
import java.util.NoSuchElementException;
import java.util.Set;

/**
 * The document once more, sentence by sentence and without regard to speed: random runs compare the
 * program with it. It shares no code and no way of holding the state with the program.
 */
final class Model {
    static final List<String> KEYWORDS = Arrays.asList("land", "coast", "sea", "center", "border", "army",
            "fleet", "power", "hold", "to", "support", "convoy", "disband", "build", "remove");

    static final class Unit {
        int power;
        boolean fleet;
        String area;
        // hold, to, support, supportTo, convoy
        String order = "hold";
        String first;
        String second;
        String retreat;
        // Where a direct move came from that dislodged it.
        String attacker;

        Unit copy() {
            Unit u = new Unit();
            u.power = power;
            u.fleet = fleet;
            u.area = area;
            u.order = order;
            u.first = first;
            u.second = second;
            u.retreat = retreat;
            u.attacker = attacker;
            return u;
        }
    }

    static final class Area {
        String name;
        String kind;
        boolean center;
        int home = -1;
        int owner = -1;

        Area copy() {
            Area a = new Area();
            a.name = name;
            a.kind = kind;
            a.center = center;
            a.home = home;
            a.owner = owner;
            return a;
        }
    }

    static final class Border {
        String one;
        String other;
        String only;
    }

    static final class World {
        List<Area> areas = new ArrayList<>();
        List<String> powers = new ArrayList<>();
        List<Border> borders = new ArrayList<>();
        List<Unit> units = new ArrayList<>();
        List<Unit> dislodged = new ArrayList<>();
        int turn = 1;
        int phase = 0;
        Settling latest;
        Set<String> contested = new HashSet<>();

        World copy() {
            World w = new World();
            areas.forEach(a -> w.areas.add(a.copy()));
            w.powers.addAll(powers);
            w.borders.addAll(borders);
            units.forEach(u -> w.units.add(u.copy()));
            dislodged.forEach(u -> w.dislodged.add(u.copy()));
            w.turn = turn;
            w.phase = phase;
            w.latest = latest;
            w.contested = new HashSet<>(contested);
            return w;
        }

        Area area(String name) {
            return areas.stream().filter(a -> a.name.equals(name)).findFirst().orElse(null);
        }

        int number(String name) {
            return areas.indexOf(area(name));
        }

        Unit unitAt(String name) {
            return units.stream().filter(u -> u.area.equals(name)).findFirst().orElse(null);
        }

        Unit dislodgedAt(String name) {
            return dislodged.stream().filter(u -> u.area.equals(name)).findFirst().orElse(null);
        }

        boolean passes(String one, String other, boolean fleet) {
            for (Border b : borders) {
                boolean here = b.one.equals(one) && b.other.equals(other)
                        || b.one.equals(other) && b.other.equals(one);
                if (here) {
                    if (fleet) {
                        return !"army".equals(b.only) && !area(one).kind.equals("land")
                                && !area(other).kind.equals("land");
                    }
                    return !"fleet".equals(b.only) && !area(one).kind.equals("sea")
                            && !area(other).kind.equals("sea");
                }
            }
            return false;
        }

        boolean isCoast(String name) {
            return area(name).kind.equals("coast");
        }

        boolean mayMove(Unit u, String to) {
            return passes(u.area, to, u.fleet)
                    || !u.fleet && isCoast(u.area) && isCoast(to) && !u.area.equals(to);
        }

        boolean mayRetreat(Unit u, String to) {
            return passes(u.area, to, u.fleet) && unitAt(to) == null && !contested.contains(to)
                    && !to.equals(u.attacker);
        }

        int centers(int power) {
            return (int) areas.stream().filter(a -> a.center && a.owner == power).count();
        }

        int unitsOf(int power) {
            return (int) units.stream().filter(u -> u.power == power).count();
        }

        int builds(int power) {
            int difference = centers(power) - unitsOf(power);
            if (difference > 0) {
                int free = (int) areas.stream()
                        .filter(a -> a.home == power && a.owner == power && unitAt(a.name) == null).count();
                difference = Math.min(difference, free);
                difference = Math.min(difference, 12 - units.size());
            }
            return difference;
        }

        void endTurn() {
            if (turn % 2 == 0) {
                for (Area a : areas) {
                    Unit u = unitAt(a.name);
                    if (a.center && u != null) {
                        a.owner = u.power;
                    }
                }
                for (int p = 0; p < powers.size(); p++) {
                    if (builds(p) != 0) {
                        phase = 2;
                        return;
                    }
                }
            }
            nextTurn();
        }

        void nextTurn() {
            turn++;
            phase = 0;
            for (Unit u : units) {
                u.order = "hold";
                u.first = null;
                u.second = null;
            }
        }
    }

    /** One outcome of the orders of a world, and all that section 3 says of it. */
    static final class Outcome {
        final World world;
        final List<Unit> movers;
        final boolean[] succeeds;
        final boolean seaPaths;

        Outcome(World world, List<Unit> movers, int number, boolean seaPaths) {
            this.world = world;
            this.movers = movers;
            this.seaPaths = seaPaths;
            succeeds = new boolean[movers.size()];
            for (int i = 0; i < succeeds.length; i++) {
                succeeds[i] = (number >> i & 1) == 1;
            }
        }

        boolean isMove(Unit u) {
            return u.order.equals("to");
        }

        boolean succeeds(Unit u) {
            int i = movers.indexOf(u);
            return i >= 0 && succeeds[i];
        }

        boolean dislodged(Unit u) {
            for (Unit m : movers) {
                if (succeeds(m) && m.first.equals(u.area)) {
                    return !succeeds(u);
                }
            }
            return false;
        }

        boolean direct(Unit m) {
            return world.passes(m.area, m.first, m.fleet);
        }

        boolean hasPath(Unit m) {
            if (direct(m)) {
                return true;
            }
            if (!seaPaths) {
                return false;
            }
            Set<String> seen = new HashSet<>();
            LinkedList<String> open = new LinkedList<>();
            open.add(m.area);
            while (!open.isEmpty()) {
                String from = open.removeFirst();
                if (!from.equals(m.area) && world.passes(from, m.first, true)) {
                    return true;
                }
                for (Unit f : world.units) {
                    if (f.order.equals("convoy") && f.first.equals(m.area) && f.second.equals(m.first)
                            && !dislodged(f) && world.passes(from, f.area, true) && seen.add(f.area)) {
                        open.add(f.area);
                    }
                }
            }
            return false;
        }

        Unit opposed(Unit m) {
            Unit other = world.unitAt(m.first);
            boolean found = other != null && isMove(other) && other.first.equals(m.area) && direct(m)
                    && direct(other);
            return found ? other : null;
        }

        boolean belongs(Unit s, Unit u) {
            if (isMove(u)) {
                return s.order.equals("supportTo") && s.first.equals(u.area) && s.second.equals(u.first);
            }
            return s.order.equals("support") && s.first.equals(u.area);
        }

        boolean given(Unit s) {
            boolean toSomething = false;
            for (Unit u : world.units) {
                toSomething |= belongs(s, u);
            }
            if (!toSomething || dislodged(s)) {
                return false;
            }
            String goal = s.order.equals("support") ? s.first : s.second;
            for (Unit m : movers) {
                if (hasPath(m) && m.first.equals(s.area) && m.power != s.power && !m.area.equals(goal)) {
                    return false;
                }
            }
            return true;
        }

        int supports(Unit u, int butOf) {
            int count = 0;
            for (Unit s : world.units) {
                if (s.order.startsWith("support") && belongs(s, u) && given(s) && s.power != butOf) {
                    count++;
                }
            }
            return count;
        }

        int strength(Unit m) {
            return 1 + supports(m, -1);
        }

        int attack(Unit m) {
            if (!hasPath(m)) {
                return 0;
            }
            Unit u = world.unitAt(m.first);
            if (u == null || isMove(u) && succeeds(u) && opposed(m) != u) {
                return strength(m);
            }
            if (u.power == m.power) {
                return 0;
            }
            return 1 + supports(m, u.power);
        }

        int hold(String area) {
            Unit u = world.unitAt(area);
            if (u == null) {
                return 0;
            }
            if (isMove(u)) {
                return succeeds(u) ? 0 : 1;
            }
            return 1 + supports(u, -1);
        }

        int prevents(Unit m) {
            if (!hasPath(m) || opposed(m) != null && succeeds(opposed(m))) {
                return 0;
            }
            return strength(m);
        }

        boolean beatsGoal(Unit m) {
            Unit against = opposed(m);
            return attack(m) > (against != null ? strength(against) : hold(m.first));
        }

        boolean should(Unit m) {
            if (!beatsGoal(m)) {
                return false;
            }
            for (Unit other : movers) {
                if (other != m && other.first.equals(m.first) && attack(m) <= prevents(other)) {
                    return false;
                }
            }
            return true;
        }

        boolean consistent() {
            for (Unit m : movers) {
                if (should(m) != succeeds(m)) {
                    return false;
                }
            }
            return true;
        }

        int successes() {
            int count = 0;
            for (boolean s : succeeds) {
                count += s ? 1 : 0;
            }
            return count;
        }

        int allGiven() {
            int count = 0;
            for (Unit u : world.units) {
                count += u.order.startsWith("support") && given(u) ? 1 : 0;
            }
            return count;
        }
    }

    /** What settling a world brings. */
    static final class Settling {
        final World world;
        Outcome outcome;
        int consistent;
        String rule = "consistent";

        Settling(World toSettle) {
            world = toSettle.copy();
            List<Unit> movers = new ArrayList<>();
            for (Area a : world.areas) {
                Unit u = world.unitAt(a.name);
                if (u != null && u.order.equals("to")) {
                    movers.add(u);
                }
            }
            List<Outcome> found = find(movers, true);
            consistent = found.size();
            if (found.isEmpty()) {
                rule = "no sea paths";
                found = find(movers, false);
            }
            if (found.isEmpty()) {
                rule = "no success";
                found.add(new Outcome(world, movers, 0, false));
            }
            // The last of the greatest ones has the greatest number.
            Comparator<Outcome> order = Comparator.comparingInt(Outcome::successes)
                    .thenComparingInt(Outcome::allGiven);
            for (Outcome o : found) {
                if (outcome == null || order.compare(o, outcome) >= 0) {
                    outcome = o;
                }
            }
        }

        private List<Outcome> find(List<Unit> movers, boolean seaPaths) {
            List<Outcome> found = new ArrayList<>();
            for (int number = 0; number < 1 << movers.size(); number++) {
                Outcome o = new Outcome(world, movers, number, seaPaths);
                if (o.consistent()) {
                    found.add(o);
                }
            }
            return found;
        }

        int result(String area, int what) {
            Unit u = world.unitAt(area);
            Outcome o = outcome;
            boolean move = u != null && o.isMove(u);
            switch (what) {
                case 0:
                    if (u == null) {
                        return 0;
                    }
                    if (move) {
                        return o.succeeds(u) ? 1 : 2;
                    }
                    if (u.order.startsWith("support")) {
                        return o.given(u) ? 3 : 4;
                    }
                    return 5;
                case 1:
                    return u != null && o.dislodged(u) ? 1 : 0;
                case 2:
                    return move ? o.strength(u) : o.hold(area);
                case 3:
                    return move ? o.attack(u) : 0;
                case 4:
                    if (!move || o.succeeds(u)) {
                        return 0;
                    }
                    return !o.hasPath(u) ? 1 : !o.beatsGoal(u) ? 2 : 3;
                default:
                    return move && !o.direct(u) && o.hasPath(u) ? 1 : 0;
            }
        }
    }

    /** The error of a text. */
    static final class Fault extends RuntimeException {
        private static final long serialVersionUID = 1;
        final int code;
        final int position;

        Fault(int code, int position) {
            this.code = code;
            this.position = position;
        }
    }

    /** The tokens of a text in a row, read by the grammar. */
    static final class Tokens {
        final List<String> tokens = new ArrayList<>();
        final List<Integer> positions = new ArrayList<>();
        int at = 0;

        Tokens(String text) {
            int i = 0;
            while (i < text.length()) {
                char c = text.charAt(i);
                int end = i + 1;
                if (c >= 'a' && c <= 'z') {
                    while (end < text.length() && text.charAt(end) >= 'a' && text.charAt(end) <= 'z') {
                        end++;
                    }
                }
                if (c != ' ' && c != '\n') {
                    tokens.add(text.substring(i, end));
                    positions.add(i);
                }
                i = end;
            }
            tokens.add("");
            positions.add(text.length());
        }

        String peek() {
            return tokens.get(at);
        }

        int position() {
            return positions.get(at);
        }

        boolean ended() {
            return peek().isEmpty();
        }

        boolean skip(String word) {
            if (peek().equals(word)) {
                at++;
                return true;
            }
            return false;
        }

        void want(String word) {
            if (!skip(word)) {
                throw new Fault(1, position());
            }
        }

        boolean isWord() {
            return peek().matches("[a-z]+");
        }

        String name() {
            if (!peek().matches("[a-z]{1,5}") || KEYWORDS.contains(peek())) {
                throw new Fault(1, position());
            }
            return tokens.get(at++);
        }

        int last() {
            return positions.get(at - 1);
        }

        String areaName(World w) {
            String name = name();
            if (w.area(name) == null) {
                throw new Fault(2, last());
            }
            return name;
        }
    }

    byte[] input = new byte[0];
    String output = "";
    World world = new World();
    LinkedList<World> past = new LinkedList<>();
    int errorCode = 0;
    int errorPosition = -1;

    // ---- input

    int feed(int... words) {
        if (input.length + 20 > 1000) {
            throw new IllegalStateException();
        }
        int at = input.length;
        input = Arrays.copyOf(input, at + 20);
        for (int word : words) {
            for (int shift = 24; shift >= 0; shift -= 8) {
                input[at++] = (byte) (word >>> shift);
            }
        }
        return input.length;
    }

    private String take(int length, int least) {
        if (length < least || length > input.length) {
            throw new IllegalArgumentException();
        }
        StringBuilder text = new StringBuilder();
        for (int i = 0; i < length; i++) {
            text.append((char) (input[i] & 255));
        }
        input = new byte[0];
        return text.toString();
    }

    private void note(Fault fault) {
        errorCode = fault == null ? 0 : fault.code;
        errorPosition = fault == null ? -1 : fault.position;
        if (fault != null) {
            throw new IllegalStateException();
        }
    }

    int load(int length) {
        Tokens t = new Tokens(take(length, 0));
        World w = new World();
        try {
            while (!t.ended()) {
                statement(t, w);
                t.want(";");
            }
        } catch (Fault fault) {
            note(fault);
        }
        note(null);
        world = w;
        past.clear();
        return w.units.size();
    }

    private void statement(Tokens t, World w) {
        int start = t.position();
        String word = t.peek();
        t.at++;
        switch (word) {
            case "land":
            case "coast":
            case "sea":
                if (w.areas.size() == 16) {
                    throw new Fault(5, start);
                }
                Area area = new Area();
                area.kind = word;
                area.name = t.name();
                if (w.area(area.name) != null) {
                    throw new Fault(3, t.last());
                }
                area.center = t.skip("center");
                if (area.center && word.equals("sea")) {
                    throw new Fault(4, t.last());
                }
                w.areas.add(area);
                break;
            case "border":
                border(t, w);
                break;
            case "power":
                if (w.powers.size() == 4) {
                    throw new Fault(5, start);
                }
                String power = t.name();
                if (w.powers.contains(power)) {
                    throw new Fault(3, t.last());
                }
                w.powers.add(power);
                while (t.isWord()) {
                    Area home = w.area(t.areaName(w));
                    if (home.home >= 0) {
                        throw new Fault(3, t.last());
                    }
                    if (!home.center) {
                        throw new Fault(4, t.last());
                    }
                    home.home = w.powers.size() - 1;
                    home.owner = home.home;
                }
                break;
            case "army":
            case "fleet":
                if (w.units.size() == 12) {
                    throw new Fault(5, start);
                }
                Unit u = new Unit();
                u.fleet = word.equals("fleet");
                u.power = w.powers.indexOf(t.name());
                if (u.power < 0) {
                    throw new Fault(2, t.last());
                }
                u.area = t.areaName(w);
                if (w.unitAt(u.area) != null) {
                    throw new Fault(3, t.last());
                }
                if (w.area(u.area).kind.equals(u.fleet ? "land" : "sea")) {
                    throw new Fault(4, t.last());
                }
                w.units.add(u);
                break;
            default:
                throw new Fault(1, start);
        }
    }

    private void border(Tokens t, World w) {
        Border b = new Border();
        b.one = t.areaName(w);
        b.other = t.areaName(w);
        for (Border old : w.borders) {
            if (old.one.equals(b.one) && old.other.equals(b.other)
                    || old.one.equals(b.other) && old.other.equals(b.one)) {
                throw new Fault(3, t.last());
            }
        }
        if (b.one.equals(b.other)) {
            throw new Fault(3, t.last());
        }
        if (t.skip("army")) {
            b.only = "army";
        } else if (t.skip("fleet")) {
            b.only = "fleet";
        }
        w.borders.add(b);
        if (!w.passes(b.one, b.other, false) && !w.passes(b.one, b.other, true)) {
            throw new Fault(4, t.last());
        }
    }

    int tell(int length) {
        Tokens t = new Tokens(take(length, 0));
        World w = world.copy();
        int count = 0;
        try {
            while (!t.ended()) {
                if (w.phase == 0) {
                    order(t, w);
                } else if (w.phase == 1) {
                    retreat(t, w);
                } else {
                    build(t, w);
                }
                t.want(";");
                count++;
            }
        } catch (Fault fault) {
            note(fault);
        }
        note(null);
        world = w;
        return count;
    }

    private static void allow(boolean allowed, int position) {
        if (!allowed) {
            throw new Fault(4, position);
        }
    }

    private void order(Tokens t, World w) {
        Unit u = w.unitAt(t.areaName(w));
        if (u == null) {
            throw new Fault(2, t.last());
        }
        if (t.skip("hold")) {
            give(u, "hold", null, null);
        } else if (t.skip("to")) {
            String to = t.areaName(w);
            allow(w.mayMove(u, to), t.last());
            give(u, "to", to, null);
        } else if (t.skip("support")) {
            String c = t.areaName(w);
            if (t.skip("to")) {
                String b = t.areaName(w);
                allow(w.unitAt(c) != null && !c.equals(u.area) && !c.equals(b)
                        && w.passes(u.area, b, u.fleet), t.last());
                give(u, "supportTo", c, b);
            } else {
                allow(w.unitAt(c) != null && w.passes(u.area, c, u.fleet), t.last());
                give(u, "support", c, null);
            }
        } else {
            t.want("convoy");
            String c = t.areaName(w);
            t.want("to");
            String b = t.areaName(w);
            allow(u.fleet && w.area(u.area).kind.equals("sea") && w.unitAt(c) != null
                    && !w.unitAt(c).fleet && w.isCoast(c) && w.isCoast(b) && !c.equals(b), t.last());
            give(u, "convoy", c, b);
        }
    }

    private static void give(Unit u, String order, String first, String second) {
        u.order = order;
        u.first = first;
        u.second = second;
    }

    private void retreat(Tokens t, World w) {
        Unit u = w.dislodgedAt(t.areaName(w));
        if (u == null) {
            throw new Fault(2, t.last());
        }
        if (t.skip("disband")) {
            u.retreat = null;
            return;
        }
        t.want("to");
        String to = t.areaName(w);
        allow(w.mayRetreat(u, to), t.last());
        u.retreat = to;
    }

    private void build(Tokens t, World w) {
        if (t.skip("build")) {
            Area a = w.area(t.areaName(w));
            if (w.unitAt(a.name) != null) {
                throw new Fault(3, t.last());
            }
            allow(a.home >= 0 && a.owner == a.home && w.centers(a.home) > w.unitsOf(a.home)
                    && w.units.size() < 12, t.last());
            Unit u = new Unit();
            u.area = a.name;
            u.power = a.home;
            if (t.skip("fleet")) {
                u.fleet = true;
                allow(a.kind.equals("coast"), t.last());
            } else {
                t.want("army");
            }
            w.units.add(u);
        } else {
            t.want("remove");
            Unit u = w.unitAt(t.areaName(w));
            if (u == null) {
                throw new Fault(2, t.last());
            }
            allow(w.unitsOf(u.power) > w.centers(u.power), t.last());
            w.units.remove(u);
        }
    }

    // ---- map

    private Area area(int number) {
        if (number < 0 || number >= world.areas.size()) {
            throw new NoSuchElementException();
        }
        return world.areas.get(number);
    }

    private Unit unit(int number) {
        Unit u = world.unitAt(area(number).name);
        if (u == null) {
            throw new NoSuchElementException();
        }
        return u;
    }

    private void checkPower(int power) {
        if (power < 0 || power >= world.powers.size()) {
            throw new NoSuchElementException();
        }
    }

    private void checkWhat(int what, int most) {
        if (what < 0 || what > most) {
            throw new IllegalArgumentException();
        }
    }

    private void checkPhase(int phase) {
        if (world.phase != phase) {
            throw new IllegalStateException();
        }
    }

    int area(int area, int what) {
        Area a = area(area);
        checkWhat(what, 7);
        Unit u = what < 6 ? world.unitAt(a.name) : world.dislodgedAt(a.name);
        switch (what) {
            case 0:
                return Arrays.asList("land", "coast", "sea").indexOf(a.kind);
            case 1:
                return a.center ? 1 : 0;
            case 2:
                return a.home;
            case 3:
                return a.owner;
            case 4:
            case 6:
                return u == null ? -1 : u.power;
            default:
                return u == null ? -1 : u.fleet ? 1 : 0;
        }
    }

    int named(int length) {
        String name = take(length, 1);
        if (world.area(name) == null) {
            throw new NoSuchElementException();
        }
        return world.number(name);
    }

    boolean passes(int from, int to, boolean fleet) {
        return world.passes(area(from).name, area(to).name, fleet);
    }

    int distance(int from, int to, boolean fleet) {
        area(to);
        int[] far = new int[world.areas.size()];
        Arrays.fill(far, -1);
        area(from);
        far[from] = 0;
        for (int round = 0; round < far.length; round++) {
            for (int a = 0; a < far.length; a++) {
                for (int b = 0; b < far.length; b++) {
                    if (far[a] == round && far[b] < 0 && passes(a, b, fleet)) {
                        far[b] = round + 1;
                    }
                }
            }
        }
        return far[to];
    }

    int power(int power, int what) {
        checkPower(power);
        checkWhat(what, 3);
        switch (what) {
            case 0:
                return world.centers(power);
            case 1:
                return world.unitsOf(power);
            case 2:
                return (int) world.areas.stream().filter(a -> a.home == power).count();
            default:
                return world.builds(power);
        }
    }

    // ---- orders and results

    int order(int area, int what) {
        Unit u = unit(area);
        checkWhat(what, 2);
        checkPhase(0);
        switch (what) {
            case 0:
                return Arrays.asList("hold", "to", "support", "supportTo", "convoy").indexOf(u.order);
            case 1:
                return u.first == null ? -1 : world.number(u.first);
            default:
                return u.second == null ? -1 : world.number(u.second);
        }
    }

    private void remember() {
        past.addLast(world);
        if (past.size() > 6) {
            past.removeFirst();
        }
        world = world.copy();
    }

    int settle() {
        checkPhase(0);
        remember();
        Settling s = new Settling(world);
        Outcome o = s.outcome;
        List<Unit> stay = new ArrayList<>();
        for (Unit old : s.world.units) {
            Unit u = old.copy();
            if (o.succeeds(old)) {
                u.area = old.first;
            }
            if (!o.dislodged(old)) {
                stay.add(u);
                continue;
            }
            u.retreat = null;
            u.attacker = null;
            for (Unit m : o.movers) {
                if (o.succeeds(m) && m.first.equals(old.area) && o.direct(m)) {
                    u.attacker = m.area;
                }
            }
            world.dislodged.add(u);
        }
        world.units = stay;
        world.contested = new HashSet<>();
        for (Unit m : o.movers) {
            if (!o.succeeds(m) && o.hasPath(m) && world.unitAt(m.first) == null) {
                world.contested.add(m.first);
            }
        }
        world.latest = s;
        if (world.dislodged.isEmpty()) {
            world.endTurn();
        } else {
            world.phase = 1;
        }
        return o.successes();
    }

    private Settling latest() {
        if (world.latest == null) {
            throw new IllegalStateException();
        }
        return world.latest;
    }

    int result(int area, int what) {
        Area a = area(area);
        checkWhat(what, 5);
        return latest().result(a.name, what);
    }

    int outcomes() {
        return latest().consistent;
    }

    boolean isContested(int area) {
        Area a = area(area);
        latest();
        return world.contested.contains(a.name);
    }

    // ---- retreats and builds

    boolean mayRetreat(int area, int to) {
        Area a = area(area);
        Area b = area(to);
        Unit u = world.dislodgedAt(a.name);
        if (u == null) {
            throw new NoSuchElementException();
        }
        return world.mayRetreat(u, b.name);
    }

    int endRetreats() {
        checkPhase(1);
        remember();
        int gone = 0;
        List<Unit> come = new ArrayList<>();
        for (Unit u : world.dislodged) {
            long same = world.dislodged.stream()
                    .filter(v -> u.retreat != null && u.retreat.equals(v.retreat)).count();
            if (same == 1) {
                come.add(u);
            } else {
                gone++;
            }
        }
        come.forEach(u -> u.area = u.retreat);
        world.units.addAll(come);
        world.dislodged.clear();
        world.endTurn();
        return gone;
    }

    int endBuilds() {
        checkPhase(2);
        remember();
        int taken = 0;
        for (int p = 0; p < world.powers.size(); p++) {
            while (world.unitsOf(p) > world.centers(p)) {
                Unit last = null;
                for (Unit u : world.units) {
                    if (u.power == p && (last == null || world.number(u.area) > world.number(last.area))) {
                        last = u;
                    }
                }
                world.units.remove(last);
                taken++;
            }
        }
        world.nextTurn();
        return taken;
    }

    int undo() {
        if (past.isEmpty()) {
            throw new IllegalStateException();
        }
        world = past.removeLast();
        return past.size();
    }

    // ---- what would be

    int foresee(int area, int what) {
        Area a = area(area);
        checkWhat(what, 5);
        checkPhase(0);
        return new Settling(world).result(a.name, what);
    }

    int foreseeMove(int area, int to) {
        Unit u = unit(area);
        Area b = area(to);
        if (!world.mayMove(u, b.name)) {
            throw new IllegalArgumentException();
        }
        checkPhase(0);
        World w = world.copy();
        give(w.unitAt(u.area), "to", b.name, null);
        return new Settling(w).result(u.area, 0) == 1 ? 1 : 0;
    }

    int reach(int area, int power, boolean other) {
        Area a = area(area);
        checkPower(power);
        return (int) world.units.stream()
                .filter(u -> (u.power == power) != other && world.passes(u.area, a.name, u.fleet)).count();
    }

    boolean isThreatened(int area) {
        Unit u = unit(area);
        return reach(area, u.power, true) > 1 + reach(area, u.power, false);
    }

    // ---- shares

    float share(int power) {
        checkPower(power);
        long all = world.areas.stream().filter(a -> a.center).count();
        return all == 0 ? 0 : (float) world.centers(power) / (float) all;
    }

    double unevenness() {
        long all = world.areas.stream().filter(a -> a.center).count();
        double sum = 0;
        for (int p = 0; p < world.powers.size() && all > 0; p++) {
            double s = (double) world.centers(p) / (double) all;
            sum += s * s;
        }
        return sum;
    }

    int leader() {
        if (world.powers.isEmpty()) {
            throw new NoSuchElementException();
        }
        int best = 0;
        for (int p = 1; p < world.powers.size(); p++) {
            int[] mine = {world.centers(p), world.unitsOf(p)};
            int[] its = {world.centers(best), world.unitsOf(best)};
            if (Arrays.compare(mine, its) > 0) {
                best = p;
            }
        }
        return best;
    }

    // ---- output

    int writeUnits() {
        output = "";
        for (Area a : world.areas) {
            Unit u = world.unitAt(a.name);
            if (u != null) {
                output += world.powers.get(u.power) + (u.fleet ? " F " : " A ") + a.name + "\n";
            }
        }
        return output.length();
    }

    int writeOrders() {
        checkPhase(0);
        output = "";
        for (Area a : world.areas) {
            Unit u = world.unitAt(a.name);
            if (u != null) {
                String verb = u.order.equals("supportTo") ? "support" : u.order;
                output += a.name + " " + verb + (u.first == null ? "" : " " + u.first)
                        + (u.second == null ? "" : " to " + u.second) + ";\n";
            }
        }
        return output.length();
    }

    int outputByte(int index) {
        if (index < 0 || index >= output.length()) {
            throw new IndexOutOfBoundsException();
        }
        return output.charAt(index);
    }
}
