import java.util.NoSuchElementException;

/**
 * Settles orders that are given at the same time: units on a map hold, move, support and convoy;
 * then they retreat, centers change hands, and units are built or removed.
 */
public final class OrderSettler {
    private static final int NONE = -1;
    private static final int MAX_AREAS = 16;
    private static final int MAX_POWERS = 4;
    private static final int MAX_UNITS = 12;
    private static final int MAX_UNDO = 6;
    private static final int INPUT_ROOM = 1000;
    private static final int FEED_BYTES = 20;
    // Twelve orders of 30 bytes each are the longest output that there can be.
    private static final int OUTPUT_ROOM = 360;

    private static final int INLAND = 0;
    private static final int COASTAL = 1;
    private static final int AT_SEA = 2;

    private static final int ARMY = 0;
    private static final int FLEET = 1;

    private static final int IN_ORDERS = 0;
    private static final int IN_RETREATS = 1;
    private static final int IN_BUILDS = 2;

    private static final int HOLD = 0;
    private static final int MOVE = 1;
    private static final int SUPPORT_UNIT = 2;
    private static final int SUPPORT_MOVE = 3;
    private static final int CONVOY = 4;

    private static final int AREA_REPORTS = 8;
    private static final int POWER_REPORTS = 4;
    private static final int ORDER_REPORTS = 3;
    private static final int RESULT_REPORTS = 6;

    private static final int SYNTAX = 1;
    private static final int UNKNOWN = 2;
    private static final int DUPLICATE = 3;
    private static final int FORBIDDEN = 4;
    private static final int LIMIT = 5;

    private static final int SPACE = 32;
    private static final int LINE_FEED = 10;
    private static final int SEMICOLON = 59;
    private static final int LETTER_A = 97;
    private static final int LETTER_Z = 122;

    private static final int NAME_LETTERS = 5;
    // A word keeps one letter more than the longest keyword has, so that none is taken for one.
    private static final int KEPT_LETTERS = 8;
    private static final int LETTER_BITS = 5;
    private static final int LETTER_MASK = 31;

    private final byte[] input = new byte[INPUT_ROOM];
    private int inputLength = 0;
    private final Output output = new Output();
    private int errorCode = 0;
    private int errorPosition = NONE;
    private final MapReader mapReader = new MapReader();
    private final TurnReader turnReader = new TurnReader();
    private final Judge judge = new Judge();
    private final State[] past = new State[MAX_UNDO];
    private int undoable = 0;
    private Board board = new Board();
    private Board spareBoard = new Board();
    private State now = new State();
    private State draft = new State();

    public OrderSettler() {
        for (int i = 0; i < MAX_UNDO; i++) {
            past[i] = new State();
        }
    }

    // ---- input

    public int feed(int a, int b, int c, int d, int e) throws IllegalStateException {
        if (inputLength + FEED_BYTES > INPUT_ROOM) {
            throw new IllegalStateException("the input buffer is full");
        }
        append(a);
        append(b);
        append(c);
        append(d);
        append(e);
        return inputLength;
    }

    public int load(int length) throws IllegalArgumentException, IllegalStateException {
        requireLength(length, 0);
        inputLength = 0;
        boolean read = mapReader.readMap(input, length, spareBoard, draft);
        noteError(mapReader);
        if (!read) {
            throw new IllegalStateException("the map has an error");
        }
        Board loaded = spareBoard;
        spareBoard = board;
        board = loaded;
        adoptDraft();
        undoable = 0;
        return now.countAllUnits();
    }

    public int tell(int length) throws IllegalArgumentException, IllegalStateException {
        requireLength(length, 0);
        inputLength = 0;
        draft.copyFrom(now);
        int count = turnReader.readAll(input, length, board, draft);
        noteError(turnReader);
        if (count == NONE) {
            throw new IllegalStateException("the text has an error");
        }
        adoptDraft();
        return count;
    }

    public int errorCode() {
        return errorCode;
    }

    public int errorPosition() {
        return errorPosition;
    }

    // ---- map

    public int areas() {
        return board.areaCount;
    }

    public int powers() {
        return board.powerCount;
    }

    public int area(int area, int what) throws NoSuchElementException, IllegalArgumentException {
        requireArea(area);
        requireReport(what, AREA_REPORTS);
        switch (what) {
            case 0:
                return board.kindOf(area);
            case 1:
                return has(board.centers, area) ? 1 : 0;
            case 2:
                return entry(board.home, area);
            case 3:
                return entry(now.owner, area);
            case 4:
                return entry(now.unitPower, area);
            case 5:
                return entry(now.unitKind, area);
            case 6:
                return entry(now.outPower, area);
            default:
                return entry(now.outKind, area);
        }
    }

    public int named(int length) throws IllegalArgumentException, NoSuchElementException {
        requireLength(length, 1);
        inputLength = 0;
        int found = board.findArea(packedInput(length));
        if (found == NONE) {
            throw new NoSuchElementException("no area has this name");
        }
        return found;
    }

    public boolean passes(int from, int to, boolean fleet) throws NoSuchElementException {
        requireArea(from);
        requireArea(to);
        return board.letsPass(from, to, fleet ? FLEET : ARMY);
    }

    public int distance(int from, int to, boolean fleet) throws NoSuchElementException {
        requireArea(from);
        requireArea(to);
        return board.countBorders(from, to, fleet ? FLEET : ARMY);
    }

    public int power(int power, int what) throws NoSuchElementException, IllegalArgumentException {
        requirePower(power);
        requireReport(what, POWER_REPORTS);
        switch (what) {
            case 0:
                return now.countCenters(power);
            case 1:
                return now.countUnits(power);
            case 2:
                return board.countHomes(power);
            default:
                return now.countBuilds(board, power);
        }
    }

    public int phase() {
        return now.phase;
    }

    public int turn() {
        return now.turn;
    }

    // ---- orders and results

    public int order(int area, int what)
            throws NoSuchElementException, IllegalArgumentException, IllegalStateException {
        requireUnit(area);
        requireReport(what, ORDER_REPORTS);
        requirePhase(IN_ORDERS);
        switch (what) {
            case 0:
                return entry(now.orderKind, area);
            case 1:
                return entry(now.orderFirst, area);
            default:
                return entry(now.orderSecond, area);
        }
    }

    public int settle() throws IllegalStateException {
        requirePhase(IN_ORDERS);
        remember();
        judge.decide(board, now);
        draft.copyFrom(now);
        now.carryOut(draft, judge);
        if (judge.dislodged == 0) {
            now.closeTurn(board);
        } else {
            now.phase = IN_RETREATS;
        }
        return Integer.bitCount(judge.success);
    }

    public int result(int area, int what)
            throws NoSuchElementException, IllegalArgumentException, IllegalStateException {
        requireArea(area);
        requireReport(what, RESULT_REPORTS);
        requireSettled();
        return entry(now.results, area * RESULT_REPORTS + what);
    }

    public int outcomes() throws IllegalStateException {
        requireSettled();
        return now.outcomeCount;
    }

    public boolean isContested(int area) throws NoSuchElementException, IllegalStateException {
        requireArea(area);
        requireSettled();
        return has(now.contested, area);
    }

    // ---- retreats and builds

    public boolean mayRetreat(int area, int to) throws NoSuchElementException {
        requireArea(area);
        requireArea(to);
        if (!now.hasDislodged(area)) {
            throw new NoSuchElementException("no dislodged unit is there");
        }
        return now.allowsRetreat(board, area, to);
    }

    public int endRetreats() throws IllegalStateException {
        requirePhase(IN_RETREATS);
        remember();
        draft.copyFrom(now);
        int gone = now.carryOutRetreats(draft);
        now.closeTurn(board);
        return gone;
    }

    public int endBuilds() throws IllegalStateException {
        requirePhase(IN_BUILDS);
        remember();
        int taken = 0;
        for (int power = 0; power < board.powerCount; power++) {
            taken += now.disbandSurplus(power);
        }
        now.beginTurn();
        return taken;
    }

    public int undo() throws IllegalStateException {
        if (undoable < 1 || undoable > MAX_UNDO) {
            throw new IllegalStateException("nothing can be undone");
        }
        undoable--;
        now.copyFrom(past[undoable]);
        return undoable;
    }

    public int undoCount() {
        return undoable;
    }

    // ---- what would be

    public int foresee(int area, int what)
            throws NoSuchElementException, IllegalArgumentException, IllegalStateException {
        requireArea(area);
        requireReport(what, RESULT_REPORTS);
        requirePhase(IN_ORDERS);
        judge.decide(board, now);
        return judge.explain(area, what);
    }

    public int foreseeMove(int area, int to)
            throws NoSuchElementException, IllegalArgumentException, IllegalStateException {
        requireUnit(area);
        requireArea(to);
        if (!now.allowsMove(board, area, to)) {
            throw new IllegalArgumentException("the move is not allowed");
        }
        requirePhase(IN_ORDERS);
        draft.copyFrom(now);
        draft.giveOrder(area, MOVE, to, NONE);
        judge.decide(board, draft);
        return has(judge.success, area) ? 1 : 0;
    }

    public int reach(int area, int power, boolean other) throws NoSuchElementException {
        requireArea(area);
        requirePower(power);
        return now.countArrivals(board, area, power, other);
    }

    public boolean isThreatened(int area) throws NoSuchElementException {
        requireUnit(area);
        int power = entry(now.unitPower, area);
        int foes = now.countArrivals(board, area, power, true);
        int friends = now.countArrivals(board, area, power, false);
        return foes > 1 + friends;
    }

    // ---- shares

    public float share(int power) throws NoSuchElementException {
        requirePower(power);
        return shareOf(power);
    }

    public int shareBits(int power) throws NoSuchElementException {
        requirePower(power);
        return floatBits(shareOf(power));
    }

    public double unevenness() {
        return sumOfSquares();
    }

    public long unevennessBits() {
        return doubleBits(sumOfSquares());
    }

    public int leader() throws NoSuchElementException {
        if (board.powerCount == 0) {
            throw new NoSuchElementException("there are no powers");
        }
        int best = 0;
        for (int power = 1; power < board.powerCount; power++) {
            int centers = now.countCenters(power) - now.countCenters(best);
            int units = now.countUnits(power) - now.countUnits(best);
            if (centers > 0 || centers == 0 && units > 0) {
                best = power;
            }
        }
        return best;
    }

    // ---- output

    public int writeUnits() {
        output.length = 0;
        for (int a = 0; a < MAX_AREAS; a++) {
            if (now.hasUnit(a)) {
                output.putName(entry(board.powerName, now.unitPower[a]));
                output.putText(now.unitKind[a] == FLEET ? " F " : " A ");
                output.putName(board.areaName[a]);
                output.putByte(LINE_FEED);
            }
        }
        return output.length;
    }

    public int writeOrders() throws IllegalStateException {
        requirePhase(IN_ORDERS);
        output.length = 0;
        for (int a = 0; a < MAX_AREAS; a++) {
            if (now.hasUnit(a)) {
                output.putName(board.areaName[a]);
                putOrder(now.orderKind[a], now.orderFirst[a], now.orderSecond[a]);
                output.putByte(SEMICOLON);
                output.putByte(LINE_FEED);
            }
        }
        return output.length;
    }

    public int outputByte(int index) throws IndexOutOfBoundsException {
        if (index < 0 || index >= output.length || index >= OUTPUT_ROOM) {
            throw new IndexOutOfBoundsException("no such byte of the output");
        }
        return output.bytes[index];
    }

    // ---- the tests that the calls share

    private void requireLength(int length, int least) {
        if (length < least || length > inputLength) {
            throw new IllegalArgumentException("the length is out of range");
        }
    }

    private void requireReport(int what, int reports) {
        if (what < 0 || what >= reports) {
            throw new IllegalArgumentException("there is no such report");
        }
    }

    private void requireArea(int area) {
        if (!board.isArea(area)) {
            throw new NoSuchElementException("there is no such area");
        }
    }

    private void requirePower(int power) {
        if (power < 0 || power >= board.powerCount) {
            throw new NoSuchElementException("there is no such power");
        }
    }

    private void requireUnit(int area) {
        if (!board.isArea(area) || !now.hasUnit(area)) {
            throw new NoSuchElementException("there is no unit at such an area");
        }
    }

    private void requirePhase(int wanted) {
        if (now.phase != wanted) {
            throw new IllegalStateException("the phase is another one");
        }
    }

    private void requireSettled() {
        if (!now.settled) {
            throw new IllegalStateException("nothing was settled");
        }
    }

    // ---- the steps that the calls share

    private void append(int word) {
        for (int shift = 24; shift >= 0; shift -= 8) {
            if (inputLength < INPUT_ROOM) {
                input[inputLength] = (byte) (word >> shift);
                inputLength++;
            }
        }
    }

    /** The name in the input as a number; 0, which no area has as its name, if it is none. */
    private int packedInput(int length) {
        if (length > NAME_LETTERS) {
            return 0;
        }
        int packed = 0;
        for (int i = 0; i < length && i < INPUT_ROOM; i++) {
            if (!isLetter(input[i])) {
                return 0;
            }
            packed = (packed << LETTER_BITS) + letterNumber(input[i]);
        }
        return packed;
    }

    private void noteError(TextReader reader) {
        errorCode = reader.foundCode;
        errorPosition = reader.foundPosition;
    }

    private void adoptDraft() {
        State adopted = draft;
        draft = now;
        now = adopted;
    }

    private void remember() {
        if (undoable >= MAX_UNDO) {
            State oldest = past[0];
            for (int i = 1; i < MAX_UNDO; i++) {
                past[i - 1] = past[i];
            }
            past[MAX_UNDO - 1] = oldest;
            undoable = MAX_UNDO - 1;
        }
        if (undoable >= 0) {
            past[undoable].copyFrom(now);
            undoable++;
        }
    }

    private void putOrder(int kind, int first, int second) {
        switch (kind) {
            case MOVE:
                output.putText(" to ");
                output.putName(entry(board.areaName, first));
                break;
            case SUPPORT_UNIT:
                output.putText(" support ");
                output.putName(entry(board.areaName, first));
                break;
            case SUPPORT_MOVE:
                output.putText(" support ");
                putRoute(first, second);
                break;
            case CONVOY:
                output.putText(" convoy ");
                putRoute(first, second);
                break;
            default:
                output.putText(" hold");
                break;
        }
    }

    private void putRoute(int from, int to) {
        output.putName(entry(board.areaName, from));
        output.putText(" to ");
        output.putName(entry(board.areaName, to));
    }

    private float shareOf(int power) {
        int all = Integer.bitCount(board.centers);
        if (all == 0) {
            return 0;
        }
        return (float) now.countCenters(power) / (float) all;
    }

    private double sumOfSquares() {
        int all = Integer.bitCount(board.centers);
        if (all == 0) {
            return 0;
        }
        double sum = 0;
        for (int power = 0; power < board.powerCount; power++) {
            double s = (double) now.countCenters(power) / (double) all;
            sum += s * s;
        }
        return sum;
    }

    /** The bits of a normal float from 0 to 1, as all shares are. */
    private static int floatBits(float value) {
        if (!(value > 0)) {
            return 0;
        }
        float rest = value;
        int exponent = 127;
        for (int i = 0; i < 126 && rest < 1; i++) {
            rest *= 2;
            exponent--;
        }
        return (exponent << 23) + (int) ((rest - 1) * (1 << 23));
    }

    /** The bits of a normal double from 0 to 1, as the unevenness is. */
    private static long doubleBits(double value) {
        if (!(value > 0)) {
            return 0;
        }
        double rest = value;
        long exponent = 1023;
        for (int i = 0; i < 1022 && rest < 1; i++) {
            rest *= 2;
            exponent--;
        }
        return (exponent << 52) + (long) ((rest - 1) * (1L << 52));
    }

    // ---- sets of areas, held as the bits of a number

    private static int bit(int area) {
        return area < 0 ? 0 : 1 << area;
    }

    private static boolean has(int set, int area) {
        return area >= 0 && (set >> area & 1) != 0;
    }

    /** What stands in a row at an index, NONE beyond its ends. */
    private static int entry(int[] row, int index) {
        return index >= 0 && index < row.length ? row[index] : NONE;
    }

    private static boolean isLetter(int sign) {
        return sign >= LETTER_A && sign <= LETTER_Z;
    }

    private static int letterNumber(int sign) {
        return sign - LETTER_A + 1;
    }

    /** The keywords, each with its letters packed into a number like those of every word. */
    private enum Word {
        LAND("land"), COAST("coast"), SEA("sea"), CENTER("center"), BORDER("border"),
        ARMY("army"), FLEET("fleet"), POWER("power"), HOLD("hold"), TO("to"),
        SUPPORT("support"), CONVOY("convoy"), DISBAND("disband"), BUILD("build"), REMOVE("remove");

        private static final Word[] ALL = values();

        private final long packed;

        Word(String letters) {
            long sum = 0;
            for (int i = 0; i < letters.length(); i++) {
                sum = (sum << LETTER_BITS) + letterNumber(letters.charAt(i));
            }
            packed = sum;
        }

        static boolean isKeyword(long packed) {
            for (int i = 0; i < ALL.length; i++) {
                if (ALL[i].packed == packed) {
                    return true;
                }
            }
            return false;
        }
    }

    /** Reads a text token by token, and keeps where it has its error. */
    private abstract static class TextReader {
        private static final int END = 0;
        private static final int WORD = 1;
        private static final int SIGN = 2;
        private static final int OTHER = 3;

        private byte[] bytes = new byte[0];
        private int length = 0;
        private int kind = END;
        private int behind = 0;
        private int letters = 0;
        private long packed = 0;
        int start = 0;
        int nameStart = 0;
        int foundCode = 0;
        int foundPosition = NONE;

        void begin(byte[] text, int textLength) {
            bytes = text;
            length = Math.min(textLength, text.length);
            behind = 0;
            foundCode = 0;
            foundPosition = NONE;
            advance();
        }

        boolean isAtEnd() {
            return kind == END;
        }

        boolean isAtWord() {
            return kind == WORD;
        }

        /** Goes on if this keyword stands here. */
        boolean take(Word word) {
            if (kind != WORD || packed != word.packed) {
                return false;
            }
            advance();
            return true;
        }

        boolean takeOrFail(Word word) {
            return take(word) || fail(SYNTAX, start);
        }

        boolean takeSemicolon() {
            if (kind != SIGN) {
                return fail(SYNTAX, start);
            }
            advance();
            return true;
        }

        /** The name that stands here as a number; 0 if there is none, which is an error. */
        int takeName() {
            nameStart = start;
            if (kind != WORD || letters > NAME_LETTERS || Word.isKeyword(packed)) {
                fail(SYNTAX, start);
                return 0;
            }
            int name = (int) packed;
            advance();
            return name;
        }

        /** The area whose name stands here; NONE if there is none, which is an error. */
        int takeArea(Board board) {
            int name = takeName();
            if (name == 0) {
                return NONE;
            }
            int area = board.findArea(name);
            if (area == NONE) {
                fail(UNKNOWN, nameStart);
            }
            return area;
        }

        boolean fail(int code, int position) {
            foundCode = code;
            foundPosition = position;
            return false;
        }

        /** Looks at the token that stands behind the present one. */
        private void advance() {
            int at = behind;
            while (at < length && (bytes[at] == SPACE || bytes[at] == LINE_FEED)) {
                at++;
            }
            start = at;
            letters = 0;
            packed = 0;
            while (at < length && bytes[at] >= LETTER_A && bytes[at] <= LETTER_Z) {
                if (letters < KEPT_LETTERS) {
                    packed = (packed << LETTER_BITS) + (bytes[at] - LETTER_A + 1);
                }
                letters++;
                at++;
            }
            behind = at;
            if (letters > 0) {
                kind = WORD;
            } else if (at >= length) {
                kind = END;
            } else {
                kind = bytes[at] == SEMICOLON ? SIGN : OTHER;
                behind = at + 1;
            }
        }
    }

    /** The areas, borders and powers of a map. */
    private static final class Board {
        int areaCount = 0;
        int powerCount = 0;
        int coasts = 0;
        int seas = 0;
        int centers = 0;
        final int[] areaName = new int[MAX_AREAS];
        final int[] home = new int[MAX_AREAS];
        final int[] armyBorders = new int[MAX_AREAS];
        final int[] fleetBorders = new int[MAX_AREAS];
        final int[] powerName = new int[MAX_POWERS];

        Board() {
            clear();
        }

        void clear() {
            areaCount = 0;
            powerCount = 0;
            coasts = 0;
            seas = 0;
            centers = 0;
            for (int a = 0; a < MAX_AREAS; a++) {
                home[a] = NONE;
                armyBorders[a] = 0;
                fleetBorders[a] = 0;
            }
        }

        boolean isArea(int area) {
            return area >= 0 && area < areaCount && area < MAX_AREAS;
        }

        int kindOf(int area) {
            if (has(seas, area)) {
                return AT_SEA;
            }
            return has(coasts, area) ? COASTAL : INLAND;
        }

        int findArea(int name) {
            for (int a = 0; a < areaCount && a < MAX_AREAS; a++) {
                if (areaName[a] == name) {
                    return a;
                }
            }
            return NONE;
        }

        int findPower(int name) {
            for (int p = 0; p < powerCount && p < MAX_POWERS; p++) {
                if (powerName[p] == name) {
                    return p;
                }
            }
            return NONE;
        }

        void addArea(int name, int kind, boolean center) {
            int area = areaCount;
            if (area < 0 || area >= MAX_AREAS) {
                return;
            }
            areaName[area] = name;
            if (kind == COASTAL) {
                coasts |= bit(area);
            }
            if (kind == AT_SEA) {
                seas |= bit(area);
            }
            if (center) {
                centers |= bit(area);
            }
            areaCount++;
        }

        int addPower(int name) {
            int power = powerCount;
            if (power < 0 || power >= MAX_POWERS) {
                return NONE;
            }
            powerName[power] = name;
            powerCount++;
            return power;
        }

        void addBorder(int one, int other, boolean armies, boolean fleets) {
            if (!isArea(one) || !isArea(other)) {
                return;
            }
            if (armies) {
                armyBorders[one] |= bit(other);
                armyBorders[other] |= bit(one);
            }
            if (fleets) {
                fleetBorders[one] |= bit(other);
                fleetBorders[other] |= bit(one);
            }
        }

        void makeHome(int area, int power) {
            if (isArea(area)) {
                home[area] = power;
            }
        }

        boolean suits(int area, int unitKind) {
            return unitKind == FLEET ? has(seas | coasts, area) : !has(seas, area);
        }

        /** The areas to which units of a kind can pass from one. */
        int bordersOf(int area, int unitKind) {
            if (area < 0 || area >= MAX_AREAS) {
                return 0;
            }
            return unitKind == FLEET ? fleetBorders[area] : armyBorders[area];
        }

        boolean letsPass(int from, int to, int unitKind) {
            if (from < 0 || from >= MAX_AREAS || to < 0 || to >= MAX_AREAS) {
                return false;
            }
            int borders = unitKind == FLEET ? fleetBorders[from] : armyBorders[from];
            return (borders & 1 << to) != 0;
        }

        // A border that would let nothing pass is refused, so the two rows hold every border.
        boolean hasBorder(int one, int other) {
            return letsPass(one, other, ARMY) || letsPass(one, other, FLEET);
        }

        int countBorders(int from, int to, int unitKind) {
            int reached = bit(from);
            for (int steps = 0; steps < MAX_AREAS; steps++) {
                if (has(reached, to)) {
                    return steps;
                }
                int grown = reached;
                for (int a = 0; a < MAX_AREAS; a++) {
                    if (has(reached, a)) {
                        grown |= bordersOf(a, unitKind);
                    }
                }
                reached = grown;
            }
            return NONE;
        }

        int countHomes(int power) {
            int count = 0;
            for (int a = 0; a < MAX_AREAS; a++) {
                if (home[a] == power) {
                    count++;
                }
            }
            return count;
        }
    }

    /** All that undo() can bring back: units, orders, centers, the phase and the latest settling. */
    private static final class State {
        int phase = IN_ORDERS;
        int turn = 1;
        boolean settled = false;
        int outcomeCount = 0;
        int contested = 0;
        final int[] owner = new int[MAX_AREAS];
        final int[] unitPower = new int[MAX_AREAS];
        final int[] unitKind = new int[MAX_AREAS];
        final int[] outPower = new int[MAX_AREAS];
        final int[] outKind = new int[MAX_AREAS];
        final int[] attackedFrom = new int[MAX_AREAS];
        final int[] retreatGoal = new int[MAX_AREAS];
        final int[] orderKind = new int[MAX_AREAS];
        final int[] orderFirst = new int[MAX_AREAS];
        final int[] orderSecond = new int[MAX_AREAS];
        final int[] results = new int[MAX_AREAS * RESULT_REPORTS];

        State() {
            clear();
        }

        void clear() {
            phase = IN_ORDERS;
            turn = 1;
            settled = false;
            outcomeCount = 0;
            contested = 0;
            for (int a = 0; a < MAX_AREAS; a++) {
                owner[a] = NONE;
            }
            for (int i = 0; i < MAX_AREAS * RESULT_REPORTS; i++) {
                results[i] = 0;
            }
            clearUnits();
            clearDislodged();
            holdAll();
        }

        private void clearUnits() {
            for (int a = 0; a < MAX_AREAS; a++) {
                unitPower[a] = NONE;
                unitKind[a] = NONE;
            }
        }

        private void clearDislodged() {
            for (int a = 0; a < MAX_AREAS; a++) {
                outPower[a] = NONE;
                outKind[a] = NONE;
                attackedFrom[a] = NONE;
                retreatGoal[a] = NONE;
            }
        }

        private void holdAll() {
            for (int a = 0; a < MAX_AREAS; a++) {
                giveOrder(a, HOLD, NONE, NONE);
            }
        }

        void copyFrom(State other) {
            phase = other.phase;
            turn = other.turn;
            settled = other.settled;
            outcomeCount = other.outcomeCount;
            contested = other.contested;
            copyRow(other.owner, owner);
            copyRow(other.unitPower, unitPower);
            copyRow(other.unitKind, unitKind);
            copyRow(other.outPower, outPower);
            copyRow(other.outKind, outKind);
            copyRow(other.attackedFrom, attackedFrom);
            copyRow(other.retreatGoal, retreatGoal);
            copyRow(other.orderKind, orderKind);
            copyRow(other.orderFirst, orderFirst);
            copyRow(other.orderSecond, orderSecond);
            copyRow(other.results, results);
        }

        private static void copyRow(int[] from, int[] to) {
            System.arraycopy(from, 0, to, 0, Math.min(from.length, to.length));
        }

        boolean hasUnit(int area) {
            return entry(unitPower, area) != NONE;
        }

        boolean hasDislodged(int area) {
            return entry(outPower, area) != NONE;
        }

        void placeUnit(int area, int power, int kind) {
            if (area >= 0 && area < MAX_AREAS) {
                unitPower[area] = power;
                unitKind[area] = kind;
            }
        }

        void giveOrder(int area, int kind, int first, int second) {
            if (area >= 0 && area < MAX_AREAS) {
                orderKind[area] = kind;
                orderFirst[area] = first;
                orderSecond[area] = second;
            }
        }

        void giveRetreat(int area, int to) {
            if (area >= 0 && area < MAX_AREAS) {
                retreatGoal[area] = to;
            }
        }

        void giveCenter(int area, int power) {
            if (area >= 0 && area < MAX_AREAS) {
                owner[area] = power;
            }
        }

        // ---- counting

        int countCenters(int power) {
            return countOf(owner, power);
        }

        int countUnits(int power) {
            return countOf(unitPower, power);
        }

        int countAllUnits() {
            return MAX_AREAS - countOf(unitPower, NONE);
        }

        private static int countOf(int[] row, int value) {
            int count = 0;
            for (int i = 0; i < row.length; i++) {
                if (row[i] == value) {
                    count++;
                }
            }
            return count;
        }

        /** How many units a power may build or, below 0, must remove. */
        int countBuilds(Board board, int power) {
            int difference = countCenters(power) - countUnits(power);
            if (difference <= 0) {
                return difference;
            }
            int free = Integer.bitCount(freeHomes(board, power));
            return Math.min(difference, Math.min(free, MAX_UNITS - countAllUnits()));
        }

        /** The homes of a power that belong to it and have no unit. */
        private int freeHomes(Board board, int power) {
            int free = 0;
            for (int a = 0; a < MAX_AREAS; a++) {
                if (board.home[a] == power && owner[a] == power && unitPower[a] == NONE) {
                    free |= 1 << a;
                }
            }
            return free;
        }

        /** How many units of a power, or of all others, can go to an area. */
        int countArrivals(Board board, int area, int power, boolean other) {
            int count = 0;
            for (int a = 0; a < MAX_AREAS; a++) {
                if (hasUnit(a) && unitPower[a] == power != other && canGo(board, a, area)) {
                    count++;
                }
            }
            return count;
        }

        // ---- what is allowed

        boolean canGo(Board board, int area, int to) {
            int kind = entry(unitKind, area);
            return kind != NONE && board.letsPass(area, to, kind);
        }

        private boolean hasArmy(int area) {
            return entry(unitKind, area) == ARMY;
        }

        boolean allowsMove(Board board, int area, int to) {
            return canGo(board, area, to) || hasArmy(area) && joinsCoasts(board, area, to);
        }

        boolean allowsUnitSupport(Board board, int area, int supported) {
            return hasUnit(supported) && canGo(board, area, supported);
        }

        boolean allowsMoveSupport(Board board, int area, int from, int to) {
            return hasUnit(from) && from != area && from != to && canGo(board, area, to);
        }

        boolean allowsConvoy(Board board, int area, int from, int to) {
            return entry(unitKind, area) == FLEET && has(board.seas, area)
                    && hasArmy(from) && joinsCoasts(board, from, to);
        }

        private static boolean joinsCoasts(Board board, int from, int to) {
            return from != to && has(board.coasts, from) && has(board.coasts, to);
        }

        boolean allowsRetreat(Board board, int area, int to) {
            return hasDislodged(area) && board.letsPass(area, to, entry(outKind, area))
                    && !hasUnit(to) && !has(contested, to) && entry(attackedFrom, area) != to;
        }

        boolean allowsBuild(Board board, int area) {
            int power = entry(board.home, area);
            return power != NONE && has(freeHomes(board, power), area) && countBuilds(board, power) > 0;
        }

        boolean needsRemoval(int power) {
            return countCenters(power) < countUnits(power);
        }

        // ---- what becomes of the units

        /** Puts the units where a settling leads them from where they were before. */
        void carryOut(State before, Judge judge) {
            clearUnits();
            clearDislodged();
            for (int a = 0; a < MAX_AREAS; a++) {
                int power = before.unitPower[a];
                int kind = before.unitKind[a];
                if (has(judge.success, a)) {
                    placeUnit(before.orderFirst[a], power, kind);
                } else if (has(judge.dislodged, a)) {
                    outPower[a] = power;
                    outKind[a] = kind;
                    attackedFrom[a] = judge.findAttacker(a);
                } else if (power != NONE) {
                    placeUnit(a, power, kind);
                }
            }
            contested = 0;
            int failedGoals = judge.findFailedGoals();
            for (int a = 0; a < MAX_AREAS; a++) {
                if (has(failedGoals, a) && !hasUnit(a)) {
                    contested |= bit(a);
                }
            }
            settled = true;
            outcomeCount = judge.outcomeCount;
            judge.explainAll(results);
        }

        /** Lets dislodged units retreat from where they were before, and counts those gone. */
        int carryOutRetreats(State before) {
            int gone = 0;
            for (int a = 0; a < MAX_AREAS; a++) {
                if (before.hasDislodged(a)) {
                    int goal = before.retreatGoal[a];
                    if (goal != NONE && countOf(before.retreatGoal, goal) == 1) {
                        placeUnit(goal, before.outPower[a], before.outKind[a]);
                    } else {
                        gone++;
                    }
                }
            }
            clearDislodged();
            return gone;
        }

        /** Goes on to the builds or to the next turn, when nobody has to retreat any more. */
        void closeTurn(Board board) {
            if (turn % 2 != 0) {
                beginTurn();
                return;
            }
            for (int a = 0; a < MAX_AREAS; a++) {
                if (has(board.centers, a) && hasUnit(a)) {
                    owner[a] = unitPower[a];
                }
            }
            for (int power = 0; power < board.powerCount; power++) {
                if (countBuilds(board, power) != 0) {
                    phase = IN_BUILDS;
                    return;
                }
            }
            beginTurn();
        }

        void beginTurn() {
            turn++;
            phase = IN_ORDERS;
            holdAll();
        }

        /** Takes away the units that a power has not removed, and counts them. */
        int disbandSurplus(int power) {
            int taken = 0;
            for (int a = MAX_AREAS - 1; a >= 0; a--) {
                if (unitPower[a] == power && needsRemoval(power)) {
                    placeUnit(a, NONE, NONE);
                    taken++;
                }
            }
            return taken;
        }
    }

    /** Reads the text of a map. */
    private static final class MapReader extends TextReader {
        /** Fills a board and a state; false if the text has an error. */
        boolean readMap(byte[] text, int length, Board board, State state) {
            board.clear();
            state.clear();
            begin(text, length);
            for (int count = 0; count <= length; count++) {
                if (isAtEnd()) {
                    return true;
                }
                if (!readStatement(board, state) || !takeSemicolon()) {
                    return false;
                }
            }
            return false;
        }

        private boolean readStatement(Board board, State state) {
            int at = start;
            if (take(Word.LAND)) {
                return readArea(board, at, INLAND);
            }
            if (take(Word.COAST)) {
                return readArea(board, at, COASTAL);
            }
            if (take(Word.SEA)) {
                return readArea(board, at, AT_SEA);
            }
            if (take(Word.BORDER)) {
                return readBorder(board);
            }
            if (take(Word.POWER)) {
                return readPower(board, state, at);
            }
            if (take(Word.ARMY)) {
                return readUnit(board, state, at, ARMY);
            }
            if (take(Word.FLEET)) {
                return readUnit(board, state, at, FLEET);
            }
            return fail(SYNTAX, at);
        }

        private boolean readArea(Board board, int at, int kind) {
            if (board.areaCount >= MAX_AREAS) {
                return fail(LIMIT, at);
            }
            int name = takeName();
            if (name == 0) {
                return false;
            }
            if (board.findArea(name) != NONE) {
                return fail(DUPLICATE, nameStart);
            }
            int centerAt = start;
            boolean center = take(Word.CENTER);
            if (center && kind == AT_SEA) {
                return fail(FORBIDDEN, centerAt);
            }
            board.addArea(name, kind, center);
            return true;
        }

        private boolean readBorder(Board board) {
            int one = takeArea(board);
            if (one == NONE) {
                return false;
            }
            int other = takeArea(board);
            if (other == NONE) {
                return false;
            }
            if (one == other || board.hasBorder(one, other)) {
                return fail(DUPLICATE, nameStart);
            }
            int at = start;
            boolean onlyArmies = take(Word.ARMY);
            boolean onlyFleets = !onlyArmies && take(Word.FLEET);
            boolean armies = !onlyFleets && board.suits(one, ARMY) && board.suits(other, ARMY);
            boolean fleets = !onlyArmies && board.suits(one, FLEET) && board.suits(other, FLEET);
            if (!armies && !fleets) {
                return fail(FORBIDDEN, onlyArmies || onlyFleets ? at : nameStart);
            }
            board.addBorder(one, other, armies, fleets);
            return true;
        }

        private boolean readPower(Board board, State state, int at) {
            if (board.powerCount >= MAX_POWERS) {
                return fail(LIMIT, at);
            }
            int name = takeName();
            if (name == 0) {
                return false;
            }
            if (board.findPower(name) != NONE) {
                return fail(DUPLICATE, nameStart);
            }
            int power = board.addPower(name);
            // Each home is another area, so that a list longer than this has failed before.
            for (int count = 0; count <= MAX_AREAS && isAtWord(); count++) {
                if (!readHome(board, state, power)) {
                    return false;
                }
            }
            return true;
        }

        private boolean readHome(Board board, State state, int power) {
            int area = takeArea(board);
            if (area == NONE) {
                return false;
            }
            if (entry(board.home, area) != NONE) {
                return fail(DUPLICATE, nameStart);
            }
            if (!has(board.centers, area)) {
                return fail(FORBIDDEN, nameStart);
            }
            board.makeHome(area, power);
            state.giveCenter(area, power);
            return true;
        }

        private boolean readUnit(Board board, State state, int at, int kind) {
            if (state.countAllUnits() >= MAX_UNITS) {
                return fail(LIMIT, at);
            }
            int name = takeName();
            if (name == 0) {
                return false;
            }
            int power = board.findPower(name);
            if (power == NONE) {
                return fail(UNKNOWN, nameStart);
            }
            int area = takeArea(board);
            if (area == NONE) {
                return false;
            }
            if (state.hasUnit(area)) {
                return fail(DUPLICATE, nameStart);
            }
            if (!board.suits(area, kind)) {
                return fail(FORBIDDEN, nameStart);
            }
            state.placeUnit(area, power, kind);
            return true;
        }
    }

    /** Reads what is told in a turn: orders, retreats or builds, as the phase is. */
    private static final class TurnReader extends TextReader {
        /** Carries a text out on a state, and counts what it tells; NONE if it has an error. */
        int readAll(byte[] text, int length, Board board, State state) {
            begin(text, length);
            for (int count = 0; count <= length; count++) {
                if (isAtEnd()) {
                    return count;
                }
                if (!readOne(board, state) || !takeSemicolon()) {
                    return NONE;
                }
            }
            return NONE;
        }

        private boolean readOne(Board board, State state) {
            if (state.phase == IN_ORDERS) {
                return readOrder(board, state);
            }
            if (state.phase == IN_RETREATS) {
                return readRetreat(board, state);
            }
            if (take(Word.BUILD)) {
                return readBuild(board, state);
            }
            return takeOrFail(Word.REMOVE) && readRemoval(board, state);
        }

        private boolean readOrder(Board board, State state) {
            int area = takeArea(board);
            if (area == NONE) {
                return false;
            }
            if (!state.hasUnit(area)) {
                return fail(UNKNOWN, nameStart);
            }
            if (take(Word.HOLD)) {
                state.giveOrder(area, HOLD, NONE, NONE);
                return true;
            }
            if (take(Word.TO)) {
                return readMove(board, state, area);
            }
            if (take(Word.SUPPORT)) {
                return readSupport(board, state, area);
            }
            return takeOrFail(Word.CONVOY) && readConvoy(board, state, area);
        }

        private boolean readMove(Board board, State state, int area) {
            int to = takeArea(board);
            if (to == NONE) {
                return false;
            }
            if (!state.allowsMove(board, area, to)) {
                return fail(FORBIDDEN, nameStart);
            }
            state.giveOrder(area, MOVE, to, NONE);
            return true;
        }

        private boolean readSupport(Board board, State state, int area) {
            int first = takeArea(board);
            if (first == NONE) {
                return false;
            }
            if (!take(Word.TO)) {
                if (!state.allowsUnitSupport(board, area, first)) {
                    return fail(FORBIDDEN, nameStart);
                }
                state.giveOrder(area, SUPPORT_UNIT, first, NONE);
                return true;
            }
            int to = takeArea(board);
            if (to == NONE) {
                return false;
            }
            if (!state.allowsMoveSupport(board, area, first, to)) {
                return fail(FORBIDDEN, nameStart);
            }
            state.giveOrder(area, SUPPORT_MOVE, first, to);
            return true;
        }

        private boolean readConvoy(Board board, State state, int area) {
            int from = takeArea(board);
            if (from == NONE || !takeOrFail(Word.TO)) {
                return false;
            }
            int to = takeArea(board);
            if (to == NONE) {
                return false;
            }
            if (!state.allowsConvoy(board, area, from, to)) {
                return fail(FORBIDDEN, nameStart);
            }
            state.giveOrder(area, CONVOY, from, to);
            return true;
        }

        private boolean readRetreat(Board board, State state) {
            int area = takeArea(board);
            if (area == NONE) {
                return false;
            }
            if (!state.hasDislodged(area)) {
                return fail(UNKNOWN, nameStart);
            }
            if (take(Word.DISBAND)) {
                state.giveRetreat(area, NONE);
                return true;
            }
            if (!takeOrFail(Word.TO)) {
                return false;
            }
            int to = takeArea(board);
            if (to == NONE) {
                return false;
            }
            if (!state.allowsRetreat(board, area, to)) {
                return fail(FORBIDDEN, nameStart);
            }
            state.giveRetreat(area, to);
            return true;
        }

        private boolean readBuild(Board board, State state) {
            int area = takeArea(board);
            if (area == NONE) {
                return false;
            }
            if (state.hasUnit(area)) {
                return fail(DUPLICATE, nameStart);
            }
            if (!state.allowsBuild(board, area)) {
                return fail(FORBIDDEN, nameStart);
            }
            int at = start;
            boolean fleet = take(Word.FLEET);
            if (!fleet && !takeOrFail(Word.ARMY)) {
                return false;
            }
            int kind = fleet ? FLEET : ARMY;
            if (!board.suits(area, kind)) {
                return fail(FORBIDDEN, at);
            }
            state.placeUnit(area, entry(board.home, area), kind);
            return true;
        }

        private boolean readRemoval(Board board, State state) {
            int area = takeArea(board);
            if (area == NONE) {
                return false;
            }
            if (!state.hasUnit(area)) {
                return fail(UNKNOWN, nameStart);
            }
            if (!state.needsRemoval(entry(state.unitPower, area))) {
                return fail(FORBIDDEN, nameStart);
            }
            state.placeUnit(area, NONE, NONE);
            return true;
        }
    }

    /** How the orders of a state bear on each other, whatever the outcome is. */
    private static final class Links {
        int units = 0;
        int moves = 0;
        int direct = 0;
        int opposed = 0;
        int supporting = 0;
        // Of the supports, those that belong to a move or a unit.
        int supports = 0;
        // Rows of sets of areas, by the area of the unit whose order it is.
        final int[] goal = new int[MAX_AREAS];
        final int[] rivals = new int[MAX_AREAS];
        final int[] backers = new int[MAX_AREAS];
        final int[] hosts = new int[MAX_AREAS];
        final int[] hostBackers = new int[MAX_AREAS];
        final int[] cutters = new int[MAX_AREAS];
        final int[] carriers = new int[MAX_AREAS];
        final int[] boarding = new int[MAX_AREAS];
        final int[] landing = new int[MAX_AREAS];
        final int[] waters = new int[MAX_AREAS];

        void prepare(Board board, State state) {
            clear();
            for (int a = 0; a < MAX_AREAS; a++) {
                waters[a] = board.bordersOf(a, FLEET);
                if (state.hasUnit(a)) {
                    units |= bit(a);
                }
                if (state.hasUnit(a) && state.orderKind[a] == MOVE) {
                    noteMove(board, state, a);
                }
            }
            for (int a = 0; a < MAX_AREAS; a++) {
                if (has(units, a)) {
                    linkSupport(state, a);
                    linkConvoy(state, a);
                }
            }
            for (int a = 0; a < MAX_AREAS; a++) {
                if (has(moves, a)) {
                    linkMove(state, a);
                }
            }
        }

        private void clear() {
            units = 0;
            moves = 0;
            direct = 0;
            opposed = 0;
            supporting = 0;
            supports = 0;
            for (int a = 0; a < MAX_AREAS; a++) {
                goal[a] = 0;
                rivals[a] = 0;
                backers[a] = 0;
                hosts[a] = 0;
                hostBackers[a] = 0;
                cutters[a] = 0;
                carriers[a] = 0;
                boarding[a] = 0;
                landing[a] = 0;
            }
        }

        private void noteMove(Board board, State state, int area) {
            int to = entry(state.orderFirst, area);
            if (area < 0 || area >= MAX_AREAS) {
                return;
            }
            moves |= bit(area);
            goal[area] = bit(to);
            boarding[area] = board.bordersOf(area, FLEET);
            landing[area] = board.bordersOf(to, FLEET);
            if (state.canGo(board, area, to)) {
                direct |= bit(area);
            }
        }

        private void linkSupport(State state, int area) {
            int kind = entry(state.orderKind, area);
            int first = entry(state.orderFirst, area);
            int second = entry(state.orderSecond, area);
            if (kind != SUPPORT_UNIT && kind != SUPPORT_MOVE) {
                return;
            }
            supporting |= bit(area);
            boolean belongs = kind == SUPPORT_MOVE
                    ? has(moves, first) && entry(goal, first) == bit(second)
                    : has(units, first) && !has(moves, first);
            if (!belongs || first < 0 || first >= MAX_AREAS || area < 0 || area >= MAX_AREAS) {
                return;
            }
            supports |= bit(area);
            backers[first] |= bit(area);
            int spared = kind == SUPPORT_MOVE ? second : first;
            for (int a = 0; a < MAX_AREAS; a++) {
                if (goal[a] == bit(area) && a != spared
                        && state.unitPower[a] != entry(state.unitPower, area)) {
                    cutters[area] |= bit(a);
                }
            }
        }

        private void linkConvoy(State state, int area) {
            int from = entry(state.orderFirst, area);
            int to = entry(state.orderSecond, area);
            if (entry(state.orderKind, area) != CONVOY || from < 0 || from >= MAX_AREAS) {
                return;
            }
            if (has(moves & ~direct, from) && goal[from] == bit(to)) {
                carriers[from] |= bit(area);
            }
        }

        private void linkMove(State state, int area) {
            int host = entry(state.orderFirst, area);
            if (area < 0 || area >= MAX_AREAS) {
                return;
            }
            for (int a = 0; a < MAX_AREAS; a++) {
                if (a != area && goal[a] == goal[area]) {
                    rivals[area] |= bit(a);
                }
                if (state.hasUnit(a) && state.unitPower[a] == entry(state.unitPower, host)) {
                    hosts[area] |= bit(a);
                }
            }
            if (has(units, host)) {
                hostBackers[area] = entry(backers, host);
            }
            if (has(direct, area) && has(direct, host) && entry(goal, host) == bit(area)) {
                opposed |= bit(area);
            }
        }
    }

    /** Finds the outcome that counts, and explains it. */
    private static final class Judge {
        private final Links links = new Links();
        private boolean seaOpen = true;
        private int paths = 0;
        private int given = 0;
        private int best = 0;
        int success = 0;
        int dislodged = 0;
        int outcomeCount = 0;

        void decide(Board board, State state) {
            links.prepare(board, state);
            seaOpen = true;
            outcomeCount = search();
            if (outcomeCount == 0) {
                seaOpen = false;
                search();
            }
            weigh(best);
        }

        /** Counts the consistent outcomes; the best of them is kept, no success if there is none. */
        private int search() {
            int outcome = 0;
            int found = 0;
            int mostMoves = 0;
            int mostSupports = 0;
            best = 0;
            int number = 1 << Math.min(Integer.bitCount(links.moves), MAX_UNITS);
            for (int i = 0; i < number; i++) {
                weigh(outcome);
                if (isConsistent()) {
                    int moves = Integer.bitCount(success);
                    int supports = Integer.bitCount(given);
                    // The outcomes come in ascending order, so that of equals the last one stays.
                    if (found == 0 || moves > mostMoves || moves == mostMoves && supports >= mostSupports) {
                        best = outcome;
                        mostMoves = moves;
                        mostSupports = supports;
                    }
                    found++;
                }
                // This is the next greater subset of the moves.
                outcome = (outcome - links.moves) & links.moves;
            }
            return found;
        }

        /** Finds what is said for an outcome before any move is looked at. */
        private void weigh(int outcome) {
            success = outcome;
            int entered = 0;
            for (int a = 0; a < MAX_AREAS; a++) {
                if (has(outcome, a)) {
                    entered |= links.goal[a];
                }
            }
            dislodged = entered & links.units & ~outcome;
            paths = links.direct;
            given = 0;
            for (int a = 0; a < MAX_AREAS; a++) {
                if (seaOpen && links.carriers[a] != 0 && isCarried(a)) {
                    paths |= bit(a);
                }
            }
            for (int a = 0; a < MAX_AREAS; a++) {
                if (has(links.supports & ~dislodged, a) && (links.cutters[a] & paths) == 0) {
                    given |= bit(a);
                }
            }
        }

        private boolean isCarried(int area) {
            int fleets = entry(links.carriers, area) & ~dislodged;
            int reached = fleets & entry(links.boarding, area);
            for (int step = 0; step < MAX_AREAS; step++) {
                int grown = reached;
                for (int a = 0; a < MAX_AREAS; a++) {
                    if (has(reached, a)) {
                        grown |= links.waters[a] & fleets;
                    }
                }
                if (grown == reached) {
                    break;
                }
                reached = grown;
            }
            return (reached & entry(links.landing, area)) != 0;
        }

        private boolean isConsistent() {
            for (int a = 0; a < MAX_AREAS; a++) {
                if (has(links.moves, a) && shouldSucceed(a) != has(success, a)) {
                    return false;
                }
            }
            return true;
        }

        private boolean shouldSucceed(int area) {
            int attack = attackOf(area);
            return attack > resistanceTo(area) && attack > preventionOf(area);
        }

        /** The strength of a move, or the hold of an area whose unit has none. */
        private int strengthOf(int area) {
            return 1 + Integer.bitCount(entry(links.backers, area) & given);
        }

        private int attackOf(int area) {
            if (!has(paths, area)) {
                return 0;
            }
            int goal = entry(links.goal, area);
            boolean leaves = (goal & success) != 0 && !has(links.opposed, area);
            int hosts = leaves ? 0 : entry(links.hosts, area);
            if (has(hosts, area)) {
                return 0;
            }
            return 1 + Integer.bitCount(entry(links.backers, area) & given & ~hosts);
        }

        /** The strength of the opposed move or, without one, the hold of the goal. */
        private int resistanceTo(int area) {
            int goal = entry(links.goal, area);
            if ((goal & links.units) == 0) {
                return 0;
            }
            if ((goal & links.moves) != 0 && !has(links.opposed, area)) {
                return (goal & success) != 0 ? 0 : 1;
            }
            return 1 + Integer.bitCount(entry(links.hostBackers, area) & given);
        }

        /** The greatest strength with which another move to the same goal prevents. */
        private int preventionOf(int area) {
            int rivals = entry(links.rivals, area) & paths;
            int most = 0;
            for (int a = 0; a < MAX_AREAS; a++) {
                boolean stopped = has(links.opposed, a) && (links.goal[a] & success) != 0;
                if (has(rivals, a) && !stopped) {
                    most = Math.max(most, strengthOf(a));
                }
            }
            return most;
        }

        // ---- what is told of the outcome that counts

        /** The area from which a direct move came that dislodged a unit, NONE if there is none. */
        int findAttacker(int area) {
            for (int a = 0; a < MAX_AREAS; a++) {
                if (has(success & links.direct, a) && links.goal[a] == bit(area)) {
                    return a;
                }
            }
            return NONE;
        }

        int findFailedGoals() {
            int goals = 0;
            for (int a = 0; a < MAX_AREAS; a++) {
                if (has(paths & ~success, a)) {
                    goals |= links.goal[a];
                }
            }
            return goals;
        }

        void explainAll(int[] results) {
            for (int i = 0; i < results.length; i++) {
                results[i] = explain(i / RESULT_REPORTS, i % RESULT_REPORTS);
            }
        }

        int explain(int area, int what) {
            boolean isMove = has(links.moves, area);
            switch (what) {
                case 0:
                    return summaryOf(area);
                case 1:
                    return has(dislodged, area) ? 1 : 0;
                case 2:
                    return has(links.units, area) ? strengthOf(area) : 0;
                case 3:
                    return isMove ? attackOf(area) : 0;
                case 4:
                    return isMove && !has(success, area) ? reasonFor(area) : 0;
                default:
                    return has(paths & ~links.direct, area) ? 1 : 0;
            }
        }

        private int summaryOf(int area) {
            if (!has(links.units, area)) {
                return 0;
            }
            if (has(links.moves, area)) {
                return has(success, area) ? 1 : 2;
            }
            if (has(links.supporting, area)) {
                return has(given, area) ? 3 : 4;
            }
            return 5;
        }

        private int reasonFor(int area) {
            if (!has(paths, area)) {
                return 1;
            }
            return attackOf(area) > resistanceTo(area) ? 3 : 2;
        }
    }

    /** The output buffer. */
    private static final class Output {
        final byte[] bytes = new byte[OUTPUT_ROOM];
        int length = 0;

        void putByte(int sign) {
            if (length >= 0 && length < OUTPUT_ROOM) {
                bytes[length] = (byte) sign;
                length++;
            }
        }

        void putText(String text) {
            for (int i = 0; i < text.length(); i++) {
                putByte(text.charAt(i));
            }
        }

        void putName(int packed) {
            for (int shift = (NAME_LETTERS - 1) * LETTER_BITS; shift >= 0; shift -= LETTER_BITS) {
                int number = packed >> shift & LETTER_MASK;
                if (number != 0) {
                    putByte(LETTER_A + number - 1);
                }
            }
        }
    }
}
