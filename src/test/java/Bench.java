/** What the tests build objects with. */
final class Bench {
    static final int NONE = -1;
    static final int NOTHING = -1000000;

    private Bench() {
    }

    /** HOSTS with STREETS 1, 2 .., GUESTS with WITS 1, 2 .., BASES by rows. */
    static SoleGuest street(int[]... bases) {
        SoleGuest x = new SoleGuest();
        crowd(x, bases.length, bases[0].length);
        for (int h = 0; h < bases.length; h++) {
            for (int g = 0; g < bases[0].length; g++) {
                x.base(h, g, bases[h][g]);
            }
        }
        return x;
    }

    /** HOSTS with STREETS 1, 2 .., GUESTS with WITS 1, 2 .., no BASES. */
    static void crowd(SoleGuest x, int hosts, int guests) {
        for (int h = 0; h < hosts; h++) {
            x.host(h + 1);
        }
        for (int g = 0; g < guests; g++) {
            x.guest(g + 1);
        }
    }

    static int[] row(int... values) {
        return values;
    }

    static String times(String piece, int n) {
        return piece.repeat(n);
    }

    static String bytes(int... values) {
        StringBuilder text = new StringBuilder();
        for (int value : values) {
            text.append((char) value);
        }
        return text.toString();
    }

    /** The text comes behind what the TAPE has, and nothing behind it. */
    static void feed(SoleGuest x, String text) {
        int had = x.count(3);
        for (int i = 0; i < text.length(); i += 20) {
            int[] v = new int[5];
            for (int b = 0; b < 20; b++) {
                v[b / 4] = v[b / 4] << 8 | (i + b < text.length() ? text.charAt(i + b) : 0);
            }
            x.feed(v[0], v[1], v[2], v[3], v[4]);
        }
        x.end(had + text.length());
    }

    static int law(SoleGuest x, String text) {
        feed(x, text);
        return x.law();
    }

    /** A LAW, in FORCE at once. */
    static void force(SoleGuest x, String text) {
        x.force(law(x, text));
    }

    static int rows(SoleGuest x, int... values) {
        feed(x, bytes(values));
        return x.row();
    }
}
