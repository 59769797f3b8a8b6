/** Term I and promises 1 to 8, 16 to 18 at their edges: the last number that is taken, and the first that isn't. */
public final class TapeEdgesTest {
    private static final int NONE = SnapHouse.NONE;
    private static final int FULL = 20_000;
    private static final int[] COUNTS = {0, 1, 2, 19_979, 19_980, 19_981, 19_999, 20_000};

    public static void main(String[] args) {
        feedUpToTheRoom();
        fillUpToTheRoom();
        againUpToTheRoom();
        bytesFrom0To255();
        cutFrom0ToAll();
        placesOfTheTape();
        takeUpToTheRoom();
        takeOfAPressedTape();
        sumUpToTheEnd();
        sumOfNone();
        sumsThatGoRound();
        feedOfTheOutermostNumbers();
        againOneByOneFromEveryPlace();
        placesOfOut();
        aboutFrom0To5();
        anEmptyTape();
        aNewObjectOpenedNothing();
        Due.end("TapeEdgesTest");
    }

    /** So many bytes, the first 1, the last 2 (if there are two), 0 between. */
    private static SnapHouse tapeOf(int count) {
        SnapHouse x = new SnapHouse();
        x.fill(0, count);
        x.set(0, 1);
        if (count > 1) {
            x.set(count - 1, 2);
        }
        return x;
    }

    private static void tapeStays(String what, SnapHouse x, int count) {
        int[] want = new int[count];
        if (count > 0) {
            want[0] = 1;
        }
        if (count > 1) {
            want[count - 1] = 2;
        }
        Due.is(what + ": about(0)", x.about(0), count);
        Due.is(what + ": the TAPE's bytes", x.sum(0, count, false), Texts.crc(want));
        Due.is(what + ": tape(" + count + ")", x.tape(count), NONE);
    }

    private static void feedUpToTheRoom() {
        for (int count : COUNTS) {
            SnapHouse x = tapeOf(count);
            boolean fits = count + 20 <= FULL;
            Due.is("feed() behind " + count, x.feed(0x03040506, 0, 0, 0, 0x0708090A), fits ? count + 20 : NONE);
            if (fits) {
                Due.is("its first", x.tape(count), 3);
                Due.is("its last", x.tape(count + 19), 10);
                Due.is("behind it", x.tape(count + 20), NONE);
                x.cut(count);
            }
            tapeStays("feed() behind " + count, x, count);
        }
    }

    private static int[] numbersNear(int count) {
        int left = FULL - count;
        return new int[] {-1, 0, 1, 20, left - 1, left, left + 1, FULL - 1, FULL, FULL + 1, Integer.MAX_VALUE, Integer.MIN_VALUE};
    }

    private static void came(String call, SnapHouse x, int answer, boolean fits, int count, int n, int last) {
        Due.is(call, answer, fits ? count + n : NONE);
        if (fits && n > 0) {
            Due.is(call + ": the last", x.tape(count + n - 1), last);
        }
        if (fits) {
            Due.is(call + ": behind the last", x.tape(count + n), NONE);
            x.cut(count);
        }
        tapeStays(call, x, count);
    }

    private static void fillUpToTheRoom() {
        for (int count : COUNTS) {
            for (int n : numbersNear(count)) {
                SnapHouse x = tapeOf(count);
                boolean fits = n >= 0 && n <= FULL - count;
                came("fill(9, " + n + ") behind " + count, x, x.fill(9, n), fits, count, n, 9);
            }
        }
    }

    private static void againUpToTheRoom() {
        for (int count : COUNTS) {
            for (int n : numbersNear(count)) {
                SnapHouse x = tapeOf(count);
                boolean fits = count > 0 && n >= 0 && n <= FULL - count;
                int last = count > 1 ? 2 : 1;
                came("again(" + (count - 1) + ", " + n + ")", x, x.again(count - 1, n), fits, count, n, last);
                came("again(" + count + ", " + n + ")", x, x.again(count, n), false, count, n, 0);
                came("again(-1, " + n + ")", x, x.again(-1, n), false, count, n, 0);
            }
        }
    }

    private static void bytesFrom0To255() {
        for (int b : new int[] {-1, 0, 255, 256, 257, -256, Integer.MAX_VALUE, Integer.MIN_VALUE}) {
            boolean taken = b == 0 || b == 255;
            SnapHouse x = tapeOf(3);
            Due.is("fill(" + b + ", 1)", x.fill(b, 1), taken ? 4 : NONE);
            Due.is("fill(" + b + ", 1): tape(3)", x.tape(3), taken ? b : NONE);
            x.cut(3);
            Due.is("fill(" + b + ", 0)", x.fill(b, 0), taken ? 3 : NONE);
            tapeStays("fill(" + b + ", 0)", x, 3);
            Due.is("set(2, " + b + ")", x.set(2, b), taken ? 2 : NONE);
            Due.is("set(2, " + b + "): tape(2)", x.tape(2), taken ? b : 2);
        }
    }

    private static void cutFrom0ToAll() {
        for (int count : COUNTS) {
            SnapHouse x = tapeOf(count);
            for (int n : new int[] {-1, count + 1, 20_001, Integer.MIN_VALUE, Integer.MAX_VALUE}) {
                Due.is("cut(" + n + ") of " + count, x.cut(n), NONE);
                tapeStays("cut(" + n + ")", x, count);
            }
            Due.is("cut(" + count + ") of all", x.cut(count), count);
            tapeStays("cut(" + count + ")", x, count);
            if (count > 0) {
                Due.is("cut of the last", x.cut(count - 1), count - 1);
                Due.is("the last is gone", x.tape(count - 1), NONE);
                Due.is("cut of what is gone", x.cut(count), NONE);
                Due.is("it stays", x.about(0), count - 1);
            }
            Due.is("cut(0) of " + count, x.cut(0), 0);
            tapeStays("cut(0)", x, 0);
            Due.is("cut(0) of none", x.cut(0), 0);
            Due.is("cut(1) of none", x.cut(1), NONE);
        }
    }

    private static void placesOfTheTape() {
        for (int count : COUNTS) {
            SnapHouse x = tapeOf(count);
            for (int i : new int[] {-1, count, count + 1, 20_000, 20_001, Integer.MAX_VALUE, Integer.MIN_VALUE}) {
                Due.is("tape(" + i + ") of " + count, x.tape(i), NONE);
                Due.is("set(" + i + ", 5) of " + count, x.set(i, 5), NONE);
            }
            tapeStays("places of " + count, x, count);
            if (count > 1) {
                Due.is("tape(0)", x.tape(0), 1);
                Due.is("tape of the last", x.tape(count - 1), 2);
                Due.is("set of the last", x.set(count - 1, 3), 2);
                Due.is("set of the first", x.set(0, 4), 1);
                Due.is("the last", x.tape(count - 1), 3);
                Due.is("the first", x.tape(0), 4);
            }
        }
    }

    private static void takeUpToTheRoom() {
        // PIECES of four alike bytes become 12 each; what is left becomes 8 more than it is.
        int[][] sizes = {{6_661, 19_999}, {6_662, 20_000}, {6_663, 20_001}, {6_664, 20_002}};
        for (int[] size : sizes) {
            SnapHouse x = new SnapHouse();
            x.fill(7, size[0]);
            Due.is("stream(4) of " + size[0], x.stream(4), size[1]);
            boolean fits = size[1] <= FULL;
            Due.is("take() of " + size[1], x.take(), fits ? size[1] : NONE);
            Due.is("the TAPE has", x.about(0), fits ? size[1] : size[0]);
            Due.is("its first", x.tape(0), fits ? 255 : 7);
            Due.is("its last", x.tape(x.about(0) - 1), 7);
            Due.is("OUT stays", x.about(1), size[1]);
        }
        SnapHouse x = new SnapHouse();
        x.fill(7, 6_542);
        Due.is("a full OUT", x.stream(3), 24_000);
        Due.is("take() of a full OUT", x.take(), NONE);
        Due.is("the TAPE stays", x.sum(0, 6_542, false), Texts.crc(Texts.same(7, 6_542)));
        Due.is("so does OUT", x.about(1), 24_000);
        SnapHouse y = new SnapHouse();
        y.fill(7, FULL);
        Due.is("take() of an empty OUT, the TAPE full", y.take(), 0);
        Due.tapeIs("take() of none", y);
    }

    private static void takeOfAPressedTape() {
        SnapHouse x = Due.fullOfThrees();
        Due.is("press() of a full TAPE", x.press(), 20_006);
        Due.is("take() of 20,006", x.take(), NONE);
        Due.is("the TAPE stays", x.sum(0, FULL, false), Texts.crc(Texts.threes(FULL)));
        Due.is("so does OUT", x.about(1), 20_006);
        x.cut(19_995);
        Due.is("press() of 19,995", x.press(), 20_001);
        Due.is("take() of 20,001", x.take(), NONE);
        Due.is("the TAPE stays", x.about(0), 19_995);
        x.cut(19_994);
        Due.is("press() of 19,994", x.press(), 20_000);
        Due.is("take() of 20,000", x.take(), 20_000);
        Due.is("its last", x.tape(19_999), Texts.threes(19_994)[19_993]);
    }

    private static void sumUpToTheEnd() {
        int[] text = Texts.threes(FULL);
        SnapHouse x = Due.fullOfThrees();
        Due.is("all", x.sum(0, FULL, true), Texts.masked(text));
        Due.is("all but the first", x.sum(1, FULL - 1, false), Texts.crc(Texts.part(text, 1, FULL)));
        Due.is("all but the last", x.sum(0, FULL - 1, false), Texts.crc(Texts.part(text, 0, FULL - 1)));
        Due.is("the last", x.sum(FULL - 1, 1, true), Texts.masked(Texts.part(text, FULL - 1, FULL)));
        Due.is("none at the end", x.sum(FULL, 0, false), 0);
        int[][] gone = {{0, FULL + 1}, {1, FULL}, {FULL - 1, 2}, {FULL, 1}, {FULL + 1, 0}, {-1, FULL}, {-1, FULL + 1},
            {FULL, -1}, {Integer.MAX_VALUE, FULL}, {FULL, Integer.MAX_VALUE}, {FULL, Integer.MIN_VALUE}};
        for (int[] pair : gone) {
            Due.is("sum(" + pair[0] + ", " + pair[1] + ", false)", x.sum(pair[0], pair[1], false), 0);
            Due.is("sum(" + pair[0] + ", " + pair[1] + ", true)", x.sum(pair[0], pair[1], true), 0);
        }
    }

    /** Four bytes can have any sum: those at which the addition, the turn or the sign goes round. */
    /** None of none is missing up to the TAPE's end, so that there, too, it is the sum of none; beyond it there is no place. */
    private static void sumOfNone() {
        for (int count : COUNTS) {
            SnapHouse x = tapeOf(count);
            for (int i : new int[] {0, count / 2, Math.max(count - 1, 0), count}) {
                Due.is("sum(" + i + ", 0, false) of " + count, x.sum(i, 0, false), 0);
                Due.is("sum(" + i + ", 0, true) of " + count, x.sum(i, 0, true), 0xA282EAD8);
            }
            for (int i : new int[] {-1, count + 1, Integer.MIN_VALUE, Integer.MAX_VALUE}) {
                Due.is("sum(" + i + ", 0, false) of " + count, x.sum(i, 0, false), 0);
                Due.is("sum(" + i + ", 0, true) of " + count, x.sum(i, 0, true), 0);
            }
        }
    }

    private static void sumsThatGoRound() {
        int[] sums = {0, 1, -1, -2, Integer.MIN_VALUE, Integer.MAX_VALUE, 0xA282EAD8, 0xA282EAD7, 0xA282EAD9, 0x5D7D1528};
        for (int sum : sums) {
            int[] text = Texts.withMasked(sum);
            SnapHouse x = Due.tape(text);
            Due.is("a masked sum", x.sum(0, 4, true), sum);
            Due.is("the sum of the same", x.sum(0, 4, false), Texts.crc(text));
            text = Texts.withCrc(sum);
            Due.load(x, text);
            Due.is("a sum", x.sum(0, 4, false), sum);
            Due.is("the masked sum of the same", x.sum(0, 4, true), Texts.masked(text));
        }
        // One bit each: where it is turned to, up by 17 or round.
        for (int bit = 0; bit < 32; bit++) {
            SnapHouse x = Due.tape(Texts.withCrc(1 << bit));
            Due.is("bit " + bit, x.sum(0, 4, true) - 0xA282EAD8, 1 << (bit + 17) % 32);
        }
    }

    private static void feedOfTheOutermostNumbers() {
        SnapHouse x = new SnapHouse();
        x.feed(Integer.MIN_VALUE, Integer.MAX_VALUE, -1, 0, -256);
        Due.tapeIs("feed", x, 128, 0, 0, 0, 127, 255, 255, 255, 255, 255, 255, 255, 0, 0, 0, 0, 255, 255, 255, 0);
    }

    private static void againOneByOneFromEveryPlace() {
        int[] text = {5, 6, 7};
        for (int i = 0; i < 3; i++) {
            for (int n = 0; n < 8; n++) {
                int[] want = java.util.Arrays.copyOf(text, 3 + n);
                for (int k = 0; k < n; k++) {
                    want[3 + k] = want[i + k];
                }
                SnapHouse x = Due.tape(text);
                Due.is("again(" + i + ", " + n + ")", x.again(i, n), 3 + n);
                Due.tapeIs("again(" + i + ", " + n + ")", x, want);
            }
        }
    }

    private static void placesOfOut() {
        SnapHouse x = new SnapHouse();
        Due.noByteOfOut(x, 0);
        Due.noByteOfOut(x, -1);
        x.press();
        Due.is("out(0) of one", x.out(0), 0);
        Due.noByteOfOut(x, 1);
        Due.noByteOfOut(x, -1);
        x.fill(255, 6_542);
        x.stream(3);
        Due.is("out(0) of 24,000", x.out(0), 255);
        Due.is("out(23,999)", x.out(23_999), 255);
        for (int i : new int[] {-1, 24_000, 24_001, Integer.MAX_VALUE, Integer.MIN_VALUE}) {
            Due.noByteOfOut(x, i);
        }
        x.cut(0);
        x.press();
        Due.noByteOfOut(x, 1);
        Due.noByteOfOut(x, 23_999);
    }

    /** Six numbers of which no two are alike. */
    private static void aboutFrom0To5() {
        SnapHouse x = Due.tape(7, 0, 'a', 0, 'b', 1, 1, 0, 'c');
        x.open();
        Due.load(x, Texts.join(Texts.NAME, Texts.chunk(128, new int[0]), Texts.chunk(254, new int[0]),
            Texts.plainChunk(Texts.of("a")), Texts.NAME, Texts.plainChunk(Texts.of("b")), Texts.NAME));
        x.unstream();
        x.cut(8);
        x.press();
        int[] want = {8, 10, 4, 3, 7, 2};
        for (int what = 0; what < 6; what++) {
            Due.is("about(" + what + ")", x.about(what), want[what]);
        }
        for (int what : new int[] {-1, 6, Integer.MIN_VALUE, Integer.MAX_VALUE}) {
            Due.is("about(" + what + ")", x.about(what), NONE);
        }
    }

    private static void anEmptyTape() {
        SnapHouse x = new SnapHouse();
        Due.is("again(0, 0)", x.again(0, 0), NONE);
        Due.is("again(0, 1)", x.again(0, 1), NONE);
        Due.is("set(0, 0)", x.set(0, 0), NONE);
        Due.is("tape(0)", x.tape(0), NONE);
        Due.is("cut(0)", x.cut(0), 0);
        Due.is("cut(1)", x.cut(1), NONE);
        Due.is("fill(0, 0)", x.fill(0, 0), 0);
        Due.is("sum(0, 0, false)", x.sum(0, 0, false), 0);
        Due.is("sum(0, 1, false)", x.sum(0, 1, false), 0);
        Due.is("sum(0, 1, true)", x.sum(0, 1, true), 0);
        Due.is("take() of an empty OUT", x.take(), 0);
        Due.is("press()", x.press(), 1);
        Due.outIs("press()", x, 0);
        Due.is("stream(1)", x.stream(1), 10);
        Due.outIs("stream(1)", x, Texts.NAME);
        Due.is("open()", x.open(), -2);
        Due.faultIs("open()", x, 1, 0, 0, NONE);
        Due.is("unstream()", x.unstream(), -2);
        Due.faultIs("unstream()", x, 11, 0, 0, NONE);
        Due.outIs("OUT stays", x, Texts.NAME);
    }

    /** Ahead of any open() and unstream() there is no fault to tell of, whatever else was called. */
    private static void aNewObjectOpenedNothing() {
        SnapHouse x = new SnapHouse();
        nothingOpened("new", x);
        x.feed(1, 2, 3, 4, 5);
        x.fill(1, 1);
        x.again(0, 1);
        x.cut(5);
        x.set(0, 9);
        x.press();
        x.take();
        x.stream(3);
        x.stream(0);
        x.take();
        x.sum(0, 1, true);
        nothingOpened("behind all other calls", x);
    }

    private static void nothingOpened(String what, SnapHouse x) {
        for (int k = -1; k < 5; k++) {
            Due.is(what + ": fault(" + k + ")", x.fault(k), NONE);
            Due.is(what + ": element(0, " + k + ")", x.element(0, k), NONE);
            Due.is(what + ": chunk(0, " + k + ")", x.chunk(0, k), NONE);
        }
        for (int k = 2; k < 6; k++) {
            Due.is(what + ": about(" + k + ")", x.about(k), 0);
        }
    }
}
