import java.nio.charset.StandardCharsets;

/** An OrderSettler that is given texts and names instead of buffers and numbers. */
final class Game {
    final OrderSettler settler = new OrderSettler();

    Game() {
    }

    Game(String map) {
        load(map);
    }

    /** A map with as many areas before its own as there may be, which are the last ones then. */
    static String withAreasBefore(String map) {
        int own = 0;
        for (String statement : map.split(";")) {
            own += statement.strip().matches("(land|coast|sea) .*") ? 1 : 0;
        }
        StringBuilder text = new StringBuilder();
        for (int i = own; i < 16; i++) {
            text.append("land xx").append((char) ('a' + i)).append(";");
        }
        return text + map;
    }

    /** Feeds a text, filled up with a byte that no text may have. */
    void feed(String text) {
        feed(settler, text.getBytes(StandardCharsets.ISO_8859_1));
    }

    static void feed(OrderSettler settler, byte[] bytes) {
        for (int i = 0; i < bytes.length; i += 20) {
            settler.feed(word(bytes, i), word(bytes, i + 4), word(bytes, i + 8), word(bytes, i + 12),
                    word(bytes, i + 16));
        }
    }

    static int word(byte[] bytes, int at) {
        int word = 0;
        for (int i = at; i < at + 4; i++) {
            word = word << 8 | (i < bytes.length ? bytes[i] & 255 : '#');
        }
        return word;
    }

    int load(String map) {
        feed(map);
        return settler.load(map.length());
    }

    int tell(String text) {
        feed(text);
        return settler.tell(text.length());
    }

    /** The number of an area. */
    int at(String name) {
        feed(name);
        return settler.named(name.length());
    }

    int result(String name, int what) {
        return settler.result(at(name), what);
    }

    String units() {
        return output(settler.writeUnits());
    }

    String orders() {
        return output(settler.writeOrders());
    }

    String output(int length) {
        StringBuilder text = new StringBuilder();
        for (int i = 0; i < length; i++) {
            text.append((char) settler.outputByte(i));
        }
        return text.toString();
    }

    /** Loading this map must fail with this error, at the place of the sign ^, which is left out. */
    void refusesMap(String marked, int code) {
        String map = marked.replace("^", "");
        feed(map);
        Check.fails("load of " + marked, IllegalStateException.class, () -> settler.load(map.length()));
        checkError(marked, code);
    }

    /** Telling this text must fail with this error, at the place of the sign ^, which is left out. */
    void refuses(String marked, int code) {
        String text = marked.replace("^", "");
        feed(text);
        Check.fails("tell of " + marked, IllegalStateException.class, () -> settler.tell(text.length()));
        checkError(marked, code);
    }

    private void checkError(String marked, int code) {
        Check.equal("errorCode() of " + marked, code, settler.errorCode());
        Check.equal("errorPosition() of " + marked, marked.indexOf('^'), settler.errorPosition());
    }
}
