import java.util.NoSuchElementException;

/** Promises 30 to 34: shares of centers, and the leader. */
final class SharesTest {
    private static final Class<NoSuchElementException> NONE = NoSuchElementException.class;

    public static void main(String[] args) {
        noCenters();
        everyShare();
        uneven();
        sharesChange();
        leaders();
        Check.end("SharesTest");
    }

    private static void noCenters() {
        Game g = new Game("land a;power p;power q;");
        Check.equal("shareBits()", 0, g.settler.shareBits(0));
        Check.isTrue("share()", g.settler.share(1) == 0);
        Check.isTrue("unevenness()", g.settler.unevenness() == 0);
        Check.equal("unevennessBits()", 0, g.settler.unevennessBits());
        Game none = new Game("land a center;");
        Check.isTrue("unevenness() without powers", none.settler.unevenness() == 0);
        Check.equal("unevennessBits() without powers", 0, none.settler.unevennessBits());
        for (int power : new int[] {-1, 2, 4, Integer.MIN_VALUE, Integer.MAX_VALUE}) {
            Check.fails("share of " + power, NONE, () -> (long) g.settler.share(power));
            Check.fails("shareBits of " + power, NONE, () -> g.settler.shareBits(power));
        }
        Check.fails("share without powers", NONE, () -> (long) none.settler.share(0));
    }

    private static void everyShare() {
        for (int all = 1; all <= 16; all++) {
            for (int own = 0; own <= all; own++) {
                StringBuilder map = new StringBuilder();
                StringBuilder homes = new StringBuilder();
                for (int i = 0; i < all; i++) {
                    map.append("land ").append((char) ('a' + i)).append(" center;");
                    if (i < own) {
                        homes.append(' ').append((char) ('a' + i));
                    }
                }
                Game g = new Game(map + "power p" + homes + ";power q;");
                float share = (float) own / (float) all;
                String what = own + " of " + all;
                Check.isTrue("share of " + what, g.settler.share(0) == share);
                Check.equal("bits of " + what, Float.floatToIntBits(share), g.settler.shareBits(0));
                Check.equal("bits of none", 0, g.settler.shareBits(1));
                double s = (double) own / (double) all;
                Check.isTrue("unevenness of " + what, g.settler.unevenness() == s * s);
                Check.equal("its bits", Double.doubleToLongBits(s * s), g.settler.unevennessBits());
            }
        }
    }

    private static void uneven() {
        String centers = "land a center;land b center;land c center;land d center;land e center;land f center;land g center;";
        Game g = new Game(centers + "power p a;power q b c d;power r e f;power s;");
        double sum = 0;
        for (int own : new int[] {1, 3, 2, 0}) {
            double s = (double) own / 7.0;
            sum += s * s;
        }
        Check.equal("unevennessBits()", Double.doubleToLongBits(sum), g.settler.unevennessBits());
        Check.isTrue("unevenness()", g.settler.unevenness() == sum);
        Check.equal("q's share", Float.floatToIntBits(3f / 7f), g.settler.shareBits(1));
    }

    private static void sharesChange() {
        Game g = new Game("land a center;land b center;border a b;power p a;power q;army q b;");
        Check.isTrue("q's share before", g.settler.share(1) == 0);
        g.settler.settle();
        g.settler.settle();
        Check.isTrue("q's share", g.settler.share(1) == 0.5f);
        Check.isTrue("unevenness()", g.settler.unevenness() == 0.5);
    }

    private static void leaders() {
        String land = "land a center;land b center;land c center;land d;land e;";
        Check.fails("no powers", NONE, new Game(land).settler::leader);
        Check.equal("one power", 0, new Game(land + "power p;").settler.leader());
        Check.equal("most centers", 1, new Game(land + "power p a;power q b c;").settler.leader());
        Check.equal("most centers, less units", 1,
                new Game(land + "power p a;power q b c;army p d;").settler.leader());
        Check.equal("as many centers, more units", 1, new Game(land + "power p a;power q b;army q d;").settler.leader());
        Check.equal("as many of both", 0, new Game(land + "power p a;power q b;army q d;army p e;").settler.leader());
        Check.equal("the last of three", 2,
                new Game(land + "power p a;power q b;power r c;army q d;army r e;army r a;").settler.leader());
        Check.equal("the second of three", 1,
                new Game(land + "power p a;power q b;power r c;army q d;army r e;").settler.leader());
        Check.equal("units alone do not lead", 0, new Game(land + "power p a;power q;army q d;army q e;").settler.leader());
    }
}
