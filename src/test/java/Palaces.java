/** What the tests by hand share: the document's names and ways to make palaces. */
abstract class Palaces {
    static final int BEYOND = -1000001;
    static final int FULL = -1000002;
    static final int KIND = -1000003;
    static final int NONE = -1000004;
    static final int STATE = -1000005;
    static final int MISSING = -1000006;
    static final int SIZE = -1000007;
    static final int MIN = Integer.MIN_VALUE;
    static final int MAX = Integer.MAX_VALUE;

    static final int BLOCK = 0;
    static final int ARCH = 1;
    static final int BEAM = 2;
    static final int THRONE = 3;
    static final int PILLAR = 4;
    static final int LINTEL = 5;
    static final int ICICLE = 6;

    static void feed(IcePalace x, String text) {
        for (int i = 0; i < text.length(); i += 4) {
            int n = Math.min(4, text.length() - i);
            int bytes = 0;
            for (int k = 0; k < n; k++) {
                bytes = bytes << 8 | text.charAt(i + k) & 255;
            }
            x.feed(bytes, n);
        }
    }

    static int tell(IcePalace x, String text) {
        feed(x, text);
        return x.text();
    }

    /** A palace of texts, each short enough for the tape; a text with a FAULT is a fault of the test. */
    static IcePalace palace(String... texts) {
        IcePalace x = new IcePalace();
        for (String text : texts) {
            if (text.length() > 120 || tell(x, text) < 0) {
                throw new IllegalStateException("no palace: " + text);
            }
        }
        return x;
    }

    /** A palace whose HOUR is so; it takes some 210 calls. */
    static IcePalace aged(int hour) {
        IcePalace x = new IcePalace();
        int rest = hour;
        for (; rest > 48; rest -= 48) {
            x.hours(48);
        }
        if (rest > 0) {
            x.hours(rest);
        }
        return x;
    }

    /** Lays a sheet with numbers. */
    static void write(IcePalace x, int s, int bits, int... numbers) {
        x.sheet(s, bits, numbers.length);
        for (int i = 0; i < numbers.length; i++) {
            x.write(s, i, numbers[i]);
        }
    }

    /** Sixteen blocks that stand one by the other alone, the first to stand having the last number. */
    static IcePalace chain() {
        int[][] links = {{BLOCK, 42}, {BLOCK, 34}, {BLOCK, 26}, {BLOCK, 18}, {BEAM, 10}, {ICICLE, 9}, {ICICLE, 17},
            {ICICLE, 25}, {ICICLE, 33}, {BEAM, 41}, {BLOCK, 40}, {BLOCK, 32}, {BLOCK, 24}, {BLOCK, 16}, {BLOCK, 8},
            {BLOCK, 0}};
        IcePalace x = new IcePalace();
        for (int[] link : links) {
            x.block(link[0], link[1], link[1] == 0 ? 12 : 9);
        }
        return x;
    }
}
