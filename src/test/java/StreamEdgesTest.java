/** Term IV, what is MADE, and promise 11 at their edges: the PIECES, less an eighth, and the room of OUT. */
public final class StreamEdgesTest {
    private static final int NONE = SnapHouse.NONE;

    public static void main(String[] args) {
        piecesFrom1To20000();
        theLastPiecePerhapsLess();
        piecesOfOneByte();
        piecesOfAFullTape();
        fourAlikeAcrossTwoPieces();
        lessAnEighthOfFewBytes();
        lessAnEighthOfManyBytes();
        theEighthOfEachPiece();
        roomWithAPlainPieceAtLast();
        roomWithAPressedPieceAtLast();
        roomOfAFullTape();
        headersOfThreeBytes();
        sumsThatGoRound();
        Due.end("StreamEdgesTest");
    }

    private static void piecesFrom1To20000() {
        for (int count : new int[] {0, 1, 19_999, 20_000}) {
            SnapHouse x = new SnapHouse();
            x.fill(7, 2);
            x.press();
            x.cut(0);
            x.fill(7, count);
            for (int piece : new int[] {0, -1, 20_001, Integer.MIN_VALUE, Integer.MAX_VALUE}) {
                Due.is(count + ": stream(" + piece + ")", x.stream(piece), NONE);
                Due.outIs("OUT stays", x, 2, 4, 7, 7);
            }
            int one = count == 0 ? 10 : count == 1 ? 19 : NONE;
            Due.is(count + ": stream(1)", x.stream(1), one);
            if (one == NONE) {
                Due.outIs("OUT stays", x, 2, 4, 7, 7);
            }
            // LENGTH 3, a LITERAL 2, 313 COPIES of 3 bytes each; 19,999 and 20,000 alike.
            Due.is(count + ": stream(20,000)", x.stream(20_000), count < 2 ? one : 10 + 8 + 3 + 2 + 313 * 3);
        }
    }

    /** Of bytes that are all others, in PIECES of five: one less, just as many, one more. */
    private static void theLastPiecePerhapsLess() {
        for (int n = 0; n <= 16; n++) {
            int[] text = Texts.counting(n);
            int[] want = Texts.NAME;
            for (int from = 0; from < n; from += 5) {
                want = Texts.join(want, Texts.plainChunk(Texts.part(text, from, Math.min(from + 5, n))));
            }
            StreamTest.made(n + " bytes", text, 5, want);
        }
        int[] seven = Texts.counting(7);
        StreamTest.made("a PIECE of one more", seven, 8, Texts.join(Texts.NAME, Texts.plainChunk(seven)));
        StreamTest.made("a PIECE of just as many", seven, 7, Texts.join(Texts.NAME, Texts.plainChunk(seven)));
        StreamTest.made("a PIECE of one less", seven, 6, Texts.join(Texts.NAME, Texts.plainChunk(Texts.part(seven, 0, 6)),
            Texts.plainChunk(Texts.part(seven, 6, 7))));
    }

    private static void piecesOfOneByte() {
        int[] text = Texts.same(8, 3);
        int[] one = Texts.plainChunk(Texts.bytes(8));
        StreamTest.made("three PIECES", text, 1, Texts.join(Texts.NAME, one, one, one));
        StreamTest.made("two PIECES", text, 2, Texts.join(Texts.NAME, Texts.plainChunk(Texts.bytes(8, 8)), one));
    }

    /** The PIECE's last three bytes, with the next one's first, stood in it already: that is no COPY. */
    private static void fourAlikeAcrossTwoPieces() {
        int[] first = Texts.join(Texts.same('z', 12), Texts.of("abcd.abc"));
        int[] block = Texts.join(Texts.bytes(20, 0, 'z', 7 << 2 | 1, 1, 7 << 2), Texts.of("abcd.abc"));
        int[] second = Texts.of("d.");
        StreamTest.made("abc, then d", Texts.join(first, second), 20,
            Texts.join(Texts.NAME, Texts.pressedChunk(block, first), Texts.plainChunk(second)));
    }

    private static void piecesOfAFullTape() {
        SnapHouse x = new SnapHouse();
        x.fill(7, 20_000);
        Due.is("19,999 and 1", x.stream(19_999), 10 + 8 + 944 + 9);
        Due.is("the last TYPE", x.out(10 + 8 + 944), 1);
        Due.is("19,998 and 2", x.stream(19_998), 10 + 8 + 944 + 10);
        Due.is("10,000 twice", x.stream(10_000), 10 + 2 * (8 + 2 + 2 + 157 * 3));
        Due.is("9,999 twice, and 2", x.stream(9_999), 10 + 2 * (8 + 2 + 2 + 157 * 3) + 10);
        Due.is("10,001 and 9,999", x.stream(10_001), 10 + 2 * (8 + 2 + 2 + 157 * 3));
    }

    /** n bytes in rounds of so many: the BLOCK's size, and whether it is fewer than n less an eighth. */
    private static void rounds(int n, int round, int block, boolean pressed) {
        int[] text = new int[n];
        for (int i = 0; i < n; i++) {
            text[i] = 'a' + i % round;
        }
        SnapHouse x = Due.tape(text);
        String what = n + " in rounds of " + round;
        Due.is(what + ": press()", x.press(), block);
        for (int piece : new int[] {n, 20_000}) {
            Due.is(what + ": stream(" + piece + ")", x.stream(piece), 18 + (pressed ? block : n));
            Due.is(what + ": TYPE", x.out(10), pressed ? 0 : 1);
            Due.is(what + ": how many", x.out(11), 4 + (pressed ? block : n));
        }
    }

    private static void lessAnEighthOfFewBytes() {
        rounds(1, 1, 3, false);
        rounds(4, 1, 6, false);
        rounds(5, 1, 5, false);
        rounds(6, 1, 5, true);
        rounds(6, 2, 6, false);
        rounds(7, 2, 6, true);
        rounds(7, 3, 7, false);
        // From eight bytes on there is an eighth: 7 isn't fewer than 8 less 1.
        rounds(8, 2, 6, true);
        rounds(8, 3, 7, false);
        rounds(9, 3, 7, true);
        rounds(9, 4, 8, false);
        rounds(15, 9, 13, true);
        rounds(15, 10, 14, false);
        rounds(16, 9, 13, true);
        rounds(16, 10, 14, false);
        rounds(17, 10, 14, true);
        rounds(17, 11, 15, false);
    }

    private static void many(int n, int k, int block, boolean pressed) {
        int[] literal = Texts.counting(n - k);
        SnapHouse x = Due.tape(Texts.join(literal, Texts.part(literal, 0, k)));
        String what = n + " bytes, the last " + k + " copied";
        Due.is(what + ": press()", x.press(), block);
        Due.is(what + ": stream()", x.stream(n), 18 + (pressed ? block : n));
        Due.is(what + ": TYPE", x.out(10), pressed ? 0 : 1);
    }

    private static void lessAnEighthOfManyBytes() {
        // 799 less 99, and 800 less 100, are 700.
        many(799, 110, 700, false);
        many(799, 111, 699, true);
        many(800, 111, 700, false);
        many(800, 112, 699, true);
        // 807 less 100, and 808 less 101, are 707.
        many(807, 111, 707, false);
        many(807, 112, 706, true);
        many(808, 112, 707, false);
        many(808, 113, 706, true);
    }

    /** The last PIECE's eighth is its own: eight bytes in rounds of three are plain, seven in rounds of two pressed. */
    private static void theEighthOfEachPiece() {
        int[] eight = Texts.of("abcabcab");
        int[] seven = Texts.of("xyxyxyx");
        int[] block = {7, 4, 'x', 'y', 1 << 2 | 1, 2};
        StreamTest.made("plain, then pressed", Texts.join(eight, seven), 8,
            Texts.join(Texts.NAME, Texts.plainChunk(eight), Texts.pressedChunk(block, seven)));
        int[] six = Texts.of("zzzzzz");
        int[] five = Texts.of("zzzzz");
        int[] sixBlock = {6, 0, 'z', 1 << 2 | 1, 1};
        StreamTest.made("pressed, then plain", Texts.join(six, six, five), 6, Texts.join(Texts.NAME,
            Texts.pressedChunk(sixBlock, six), Texts.pressedChunk(sixBlock, six), Texts.plainChunk(five)));
    }

    private static void outStays(String what, SnapHouse x, int count, int last) {
        Due.is(what + ": OUT stays", x.about(1), count);
        Due.is(what + ": its last stays", x.out(count - 1), last);
        Due.noByteOfOut(x, count);
    }

    private static void roomWithAPlainPieceAtLast() {
        // 500 PIECES of at most 40 bytes, 8 more each.
        SnapHouse x = Due.fullOfThrees();
        int[] text = Texts.threes(20_000);
        x.cut(19_989);
        Due.is("23,999", x.stream(40), 23_999);
        x.again(19_989 - 762, 1);
        Due.is("24,000", x.stream(40), 24_000);
        outStays("24,000", x, 24_000, x.tape(19_989));
        x.again(19_990 - 762, 1);
        Due.is("24,001", x.stream(40), NONE);
        outStays("24,001", x, 24_000, x.tape(19_989));
        Due.is("the first CHUNK of 40", x.out(10), 1);
        Due.is("its first byte", x.out(18), text[0]);
        Due.is("its last byte", x.out(57), text[39]);
    }

    private static void roomWithAPressedPieceAtLast() {
        // 510 PIECES of 39 bytes, plain, and one of fewer whose BLOCK has 11, 12 or 13 bytes.
        SnapHouse x = Due.fullOfThrees();
        x.cut(510 * 39);
        Due.more(x, Texts.of("12345678123456781"));
        Due.is("its BLOCK of 12, but fewer bytes", x.stream(39), 24_000);
        x.cut(510 * 39);
        Due.more(x, Texts.of("1234567812345678123"));
        Due.is("24,000", x.stream(39), 24_000);
        Due.is("the last TYPE", x.out(24_000 - 20), 0);
        outStays("24,000", x, 24_000, 8);
        x.cut(510 * 39);
        Due.more(x, Texts.of("1234567891234567891"));
        Due.is("24,001", x.stream(39), NONE);
        outStays("24,001", x, 24_000, 8);
        x.cut(510 * 39);
        Due.more(x, Texts.of("123456712345671234"));
        Due.is("23,999", x.stream(39), 23_999);
        outStays("23,999", x, 23_999, 7);
    }

    private static void roomOfAFullTape() {
        SnapHouse x = Due.fullOfThrees();
        Due.is("20,000 in one PIECE", x.stream(20_000), 20_018);
        Due.is("in PIECES of 1", x.stream(1), NONE);
        Due.is("in PIECES of 40", x.stream(40), NONE);
        outStays("in PIECES of 40", x, 20_018, x.tape(19_999));
        Due.is("in PIECES of 41", x.stream(41), 10 + 20_000 + 8 * 488);
        outStays("in PIECES of 41", x, 23_914, x.tape(19_999));
        Due.is("the TAPE stays", x.sum(0, 20_000, false), Texts.crc(Texts.threes(20_000)));
    }

    /** How many come behind, the lowest byte first, where a byte is full and where the next one begins. */
    private static void headersOfThreeBytes() {
        SnapHouse x = Due.fullOfThrees();
        for (int n : new int[] {20_000, 16_380, 252, 251, 1}) {
            x.cut(n);
            x.stream(20_000);
            Due.is(n + ": TYPE", x.out(10), 1);
            Due.is(n + ": how many", x.out(11) | x.out(12) << 8 | x.out(13) << 16, n + 4);
            Due.is(n + ": the second byte", x.out(12), n + 4 >> 8);
        }
    }

    private static void sumsThatGoRound() {
        for (int sum : new int[] {0, 1, -1, Integer.MIN_VALUE, Integer.MAX_VALUE, 0xA282EAD7, 0xA282EAD8, 0x01020304}) {
            int[] text = Texts.withMasked(sum);
            StreamTest.made("a SUM", text, 4, Texts.join(Texts.NAME, Texts.bytes(1, 8, 0, 0),
                Texts.lowestFirst(sum & 0xFFFFFFFFL, 4), text));
        }
    }
}
