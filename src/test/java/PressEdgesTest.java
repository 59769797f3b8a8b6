/** Term III and promise 9 at their edges: from which number of bytes on a LITERAL or a COPY is told otherwise. */
public final class PressEdgesTest {
    public static void main(String[] args) {
        theLengthAtEveryByte();
        fewerBytesThanCanBeAlike();
        fourAlikeInRounds();
        threeBytesAtTheEnd();
        oneBitMakesAnotherFour();
        everyPlaceIsFoundAgain();
        literalsAheadOfACopy();
        literalsBehindACopy();
        copiesOfSizesFromDistances();
        theEndBehindACopy();
        theLatestOfMany();
        fullWithNoneAlike();
        fullWithAllAlike();
        theFarthestCopy();
        theNearestCopyOfAFullTape();
        Due.end("PressEdgesTest");
    }

    /** The LENGTH in as few bytes as can be. */
    private static int[] length(int n) {
        return Texts.length(n, n < 128 ? 1 : n < 16_384 ? 2 : 3);
    }

    /** A LITERAL's beginning, by the four cases that a TAPE has room for. */
    private static int[] literal(int[] bytes) {
        int u = bytes.length - 1;
        int[] tag = u < 60 ? Texts.bytes(u << 2) : u < 256 ? Texts.bytes(60 << 2, u) : Texts.bytes(61 << 2, u & 255, u >> 8);
        return bytes.length == 0 ? bytes : Texts.join(tag, bytes);
    }

    private static int[] nearCopy(int size, int back) {
        return Texts.bytes(back >> 8 << 5 | size - 4 << 2 | 1, back & 255);
    }

    private static int[] copy(int size, int back) {
        return Texts.bytes(size - 1 << 2 | 2, back & 255, back >> 8);
    }

    private static void theLengthAtEveryByte() {
        SnapHouse x = Due.fullOfThrees();
        int[] counts = {20_000, 16_385, 16_384, 16_383, 16_382, 129, 128, 127, 126, 1};
        for (int n : counts) {
            x.cut(n);
            int[] length = length(n);
            int told = n < 61 ? 1 : n < 257 ? 2 : 3;
            Due.is("press() of " + n, x.press(), length.length + told + n);
            for (int i = 0; i < length.length; i++) {
                Due.is("LENGTH " + n + ": out(" + i + ")", x.out(i), length[i]);
            }
            Due.is("the LITERAL behind LENGTH " + n, x.out(length.length) & 3, 0);
        }
    }

    private static void fewerBytesThanCanBeAlike() {
        PressTest.pressed("0 alike", new int[0], Texts.bytes(0));
        for (int n = 1; n <= 4; n++) {
            int[] text = Texts.same('z', n);
            PressTest.pressed(n + " alike", text, Texts.join(length(n), literal(text)));
        }
        PressTest.pressed("5 alike", Texts.same('z', 5), Texts.bytes(5, 0, 'z', 1, 1));
        PressTest.pressed("5 alike of 0", Texts.same(0, 5), Texts.bytes(5, 0, 0, 1, 1));
        PressTest.pressed("5 alike of 255", Texts.same(255, 5), Texts.bytes(5, 0, 255, 1, 1));
    }

    /** Of a round of d bytes, d + 4 are the fewest that have a COPY. */
    private static void fourAlikeInRounds() {
        for (int d = 1; d <= 70; d++) {
            int[] round = Texts.counting(d);
            int[] text = new int[d + 4];
            for (int i = 0; i < text.length; i++) {
                text[i] = round[i % d];
            }
            int[] less = Texts.part(text, 0, d + 3);
            PressTest.pressed("d + 3, d " + d, less, Texts.join(length(d + 3), literal(less)));
            PressTest.pressed("d + 4, d " + d, text, Texts.join(length(d + 4), literal(round), nearCopy(4, d)));
        }
    }

    /** At p + 3 = n there are no four bytes, not even if those ahead were all 255 or all 0. */
    private static void threeBytesAtTheEnd() {
        for (int b : new int[] {255, 0}) {
            for (int left = 1; left <= 3; left++) {
                int[] text = Texts.join(Texts.same(b, 4), Texts.bytes(9), Texts.same(b, left));
                PressTest.pressed(left + " times " + b + " at the end", text, Texts.join(length(5 + left), literal(text)));
                text = Texts.join(Texts.same(b, 4), Texts.part(Texts.bytes(9, 8, 7), 0, left));
                PressTest.pressed(left + " others at the end", text, Texts.join(length(4 + left), literal(text)));
            }
        }
    }

    private static void oneBitMakesAnotherFour() {
        for (int b : new int[] {0, 255}) {
            int[] four = Texts.same(b, 4);
            for (int bit = 0; bit < 32; bit++) {
                int[] other = Texts.with(four, bit / 8, b ^ 1 << bit % 8);
                int[] text = Texts.join(four, Texts.bytes(100), other);
                PressTest.pressed("bit " + bit + " of " + b, text, Texts.join(length(9), literal(text)));
            }
        }
    }

    /** Each four of 2,000 bytes comes once more, a 200 (none of them is one) between them: each is a COPY from where it stood. */
    private static void everyPlaceIsFoundAgain() {
        int[] ahead = Texts.counting(2_000);
        int[] text = ahead;
        int[] elements = literal(ahead);
        for (int k = 0; k < 500; k++) {
            int d = 2_000 + k;
            text = Texts.join(text, Texts.part(ahead, 4 * k, 4 * k + 4), Texts.bytes(200));
            elements = Texts.join(elements, d < 2_048 ? nearCopy(4, d) : copy(4, d), literal(Texts.bytes(200)));
        }
        PressTest.pressed("each four once more", text, Texts.join(length(4_500), elements));
    }

    private static void literalsAheadOfACopy() {
        for (int k : new int[] {4, 59, 60, 61, 62, 255, 256, 257, 258}) {
            int[] text = Texts.counting(k);
            int[] four = Texts.part(text, 0, 4);
            PressTest.pressed("a LITERAL of " + k + ", then a COPY", Texts.join(text, four),
                Texts.join(length(k + 4), literal(text), nearCopy(4, k)));
        }
    }

    private static void literalsBehindACopy() {
        int[] first = Texts.same(1, 5);
        for (int k : new int[] {1, 2, 3, 4, 59, 60, 61, 62, 255, 256, 257, 258}) {
            int[] text = Texts.counting(k);
            PressTest.pressed("a COPY, then a LITERAL of " + k, Texts.join(first, text),
                Texts.join(length(k + 5), Texts.bytes(0, 1, 1, 1), literal(text)));
        }
    }

    private static final int[][] SIZES = {{4, 4}, {5, 5}, {10, 10}, {11, 11}, {12, 12}, {13, 13}, {63, 63}, {64, 64},
        {65, 60, 5}, {66, 60, 6}, {67, 60, 7}, {68, 64, 4}, {69, 64, 5}, {75, 64, 11}, {76, 64, 12}, {127, 64, 63}, {128, 64, 64},
        {129, 64, 60, 5}, {131, 64, 60, 7}, {132, 64, 64, 4}, {192, 64, 64, 64}, {193, 64, 64, 60, 5}, {195, 64, 64, 60, 7},
        {196, 64, 64, 64, 4}};

    /** Each row: k bytes to copy, then the sizes of the COPIES; sort 1 below 12 and from below 2048 back. */
    private static void copiesOfSizesFromDistances() {
        for (int d : new int[] {1, 255, 256, 257, 2_046, 2_047, 2_048, 2_049, 4_095, 4_096}) {
            int[] ahead = Texts.counting(d);
            for (int[] row : SIZES) {
                int k = row[0];
                int[] copied = new int[k];
                int[] want = Texts.join(length(d + k), literal(ahead));
                for (int i = 0; i < k; i++) {
                    copied[i] = ahead[i % d];
                }
                for (int i = 1; i < row.length; i++) {
                    want = Texts.join(want, row[i] < 12 && d < 2_048 ? nearCopy(row[i], d) : copy(row[i], d));
                }
                PressTest.pressed(k + " bytes from " + d + " back", Texts.join(ahead, copied), want);
            }
        }
    }

    /** What is alike goes up to the end, or to the first byte that differs, be it the last one. */
    private static void theEndBehindACopy() {
        int[] ahead = Texts.counting(100);
        for (int k : new int[] {4, 11, 12, 63, 64}) {
            int[] copied = Texts.part(ahead, 0, k);
            int[] copies = k < 12 ? nearCopy(k, 100) : copy(k, 100);
            for (int left = 0; left <= 4; left++) {
                int[] other = Texts.part(Texts.bytes(7, 7, 8, 8), 0, left);
                PressTest.pressed(k + " alike, " + left + " left", Texts.join(ahead, copied, other),
                    Texts.join(length(100 + k + left), literal(ahead), copies, literal(other)));
            }
        }
    }

    /** Four bytes at many places: every COPY goes back to the last one, never to an earlier one. */
    private static void theLatestOfMany() {
        int[] four = Texts.of("wxyz");
        int[] text = Texts.join(four, Texts.bytes(0), four);
        int[] want = Texts.join(length(104), literal(Texts.join(four, Texts.bytes(0))), nearCopy(4, 5));
        for (int i = 1; i < 20; i++) {
            text = Texts.join(text, Texts.bytes(i), four);
            want = Texts.join(want, literal(Texts.bytes(i)), nearCopy(4, 5));
        }
        PressTest.pressed("twenty-one times the same four", text, want);
        // The latest place has four alike, the first one all: the latest is taken all the same.
        int[] long1 = Texts.counting(40);
        int[] short1 = Texts.part(long1, 0, 4);
        PressTest.pressed("the latest has fewer alike", Texts.join(long1, Texts.bytes(1), short1, Texts.bytes(2), long1),
            Texts.join(length(86), literal(Texts.join(long1, Texts.bytes(1))), nearCopy(4, 41), Texts.bytes(0, 2),
                nearCopy(4, 5), copy(36, 46)));
    }

    private static void fullWithNoneAlike() {
        SnapHouse x = Due.fullOfThrees();
        Due.is("press()", x.press(), 20_006);
        int[] want = Texts.join(Texts.bytes(0xA0, 0x9C, 1, 61 << 2, 19_999 & 255, 19_999 >> 8), Texts.threes(20_000));
        for (int i = 0; i < 20_006; i += i < 8 || i > 19_996 ? 1 : 97) {
            Due.is("out(" + i + ")", x.out(i), want[i]);
        }
        Due.noByteOfOut(x, 20_006);
        Due.is("the TAPE stays", x.sum(0, 20_000, false), Texts.crc(Texts.threes(20_000)));
    }

    private static void fullWithAllAlike() {
        SnapHouse x = new SnapHouse();
        x.fill(0, 20_000);
        // 19,999 to copy: 312 times 64, and 31.
        int[] want = Texts.bytes(0xA0, 0x9C, 1, 0, 0);
        for (int k = 0; k < 312; k++) {
            want = Texts.join(want, copy(64, 1));
        }
        want = Texts.join(want, copy(31, 1));
        Due.is("press()", x.press(), want.length);
        Due.is("take()", x.take(), want.length);
        Due.is("its bytes", x.sum(0, want.length, false), Texts.crc(want));
    }

    private static void theFarthestCopy() {
        SnapHouse x = Due.fullOfThrees();
        int[] text = Texts.threes(20_000);
        for (int i = 0; i < 4; i++) {
            text[19_996 + i] = text[i];
            x.set(19_996 + i, text[i]);
        }
        int[] want = Texts.join(length(20_000), literal(Texts.part(text, 0, 19_996)), copy(4, 19_996));
        Due.is("press()", x.press(), 20_005);
        for (int i = 0; i < 20_005; i += i < 8 || i > 19_990 ? 1 : 97) {
            Due.is("out(" + i + ")", x.out(i), want[i]);
        }
        x.cut(19_999);
        Due.is("three alike at the end", x.press(), 20_005);
        Due.is("the last one", x.out(20_004), text[19_998]);
    }

    private static void theNearestCopyOfAFullTape() {
        SnapHouse x = Due.fullOfThrees();
        int[] text = Texts.threes(20_000);
        for (int i = 19_996; i < 20_000; i++) {
            text[i] = text[i - 6];
            x.set(i, text[i]);
        }
        int[] copy = nearCopy(4, 6);
        Due.is("press()", x.press(), 3 + 3 + 19_996 + 2);
        Due.is("its TAG", x.out(20_002), copy[0]);
        Due.is("6 back", x.out(20_003), copy[1]);
    }
}
