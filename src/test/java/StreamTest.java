/** Promise 11: a STREAM made in PIECES. */
public final class StreamTest {
    private static final int NONE = SnapHouse.NONE;

    public static void main(String[] args) {
        ofNone();
        plainChunks();
        pressedChunks();
        lessAnEighth();
        piecesOfSeveralSizes();
        piecesArePressedApart();
        wrongSizes();
        theRoomOfOut();
        openedAgain();
        Due.end("StreamTest");
    }

    static void made(String what, int[] text, int piece, int[] want) {
        SnapHouse x = Due.tape(text);
        Due.is(what + ": stream(" + piece + ")", x.stream(piece), want.length);
        Due.is(what + ": fault(0)", x.fault(0), NONE);
        Due.is(what + ": the TAPE stays", x.sum(0, text.length, false), Texts.crc(text));
        Due.is(what + ": about(0)", x.about(0), text.length);
        Due.outIs(what, x, want);
    }

    private static void ofNone() {
        made("none", new int[0], 1, Texts.NAME);
        made("none", new int[0], 20_000, Texts.NAME);
    }

    private static void plainChunks() {
        int[] text = Texts.of("Snappy");
        made("one PIECE", text, 6, Texts.join(Texts.NAME, Texts.plainChunk(text)));
        made("a larger PIECE", text, 20_000, Texts.join(Texts.NAME, Texts.plainChunk(text)));
        made("two PIECES", text, 3, Texts.join(Texts.NAME, Texts.plainChunk(Texts.of("Sna")), Texts.plainChunk(Texts.of("ppy"))));
        made("the last one less", text, 5, Texts.join(Texts.NAME, Texts.plainChunk(Texts.of("Snapp")), Texts.plainChunk(Texts.of("y"))));
        text = Texts.counting(257);
        made("257 bytes", text, 300, Texts.join(Texts.NAME, Texts.plainChunk(text)));
    }

    private static void pressedChunks() {
        int[] text = Texts.same('a', 6);
        made("6 alike", text, 6, Texts.join(Texts.NAME, Texts.pressedChunk(Texts.bytes(6, 0, 'a', 5, 1), text)));
        int[] five = Texts.same('a', 5);
        made("5 alike", five, 6, Texts.join(Texts.NAME, Texts.plainChunk(five)));
        int[] both = Texts.same('a', 11);
        made("6 and 5", both, 6, Texts.join(Texts.NAME, Texts.pressedChunk(Texts.bytes(6, 0, 'a', 5, 1), text), Texts.plainChunk(five)));
    }

    /** Of n bytes, all but the last k told by a LITERAL: its size, then 2 to 3 bytes for the COPY. */
    private static int[] copyAtTheEnd(int n, int k) {
        int[] literal = Texts.counting(n - k);
        return Texts.join(literal, Texts.part(literal, 0, k));
    }

    private static void lessAnEighth() {
        // 16 bytes less an eighth are 14: a BLOCK of 13 is pressed, one of 14 is not.
        eighth(16, 5, 1 + 1 + 11 + 2, false);
        eighth(16, 6, 1 + 1 + 10 + 2, false);
        eighth(16, 7, 1 + 1 + 9 + 2, true);
        // 15 less 1 are 14, 7 less 0 are 7: the eighth is taken downwards.
        eighth(15, 5, 1 + 1 + 10 + 2, false);
        eighth(15, 6, 1 + 1 + 9 + 2, true);
        eighth(23, 6, 1 + 1 + 17 + 2, false);
        eighth(23, 7, 1 + 1 + 16 + 2, true);
        eighth(24, 7, 1 + 1 + 17 + 2, false);
        eighth(24, 8, 1 + 1 + 16 + 2, true);
        int[] seven = Texts.of("aaaaaaa");
        made("7 alike", seven, 7, Texts.join(Texts.NAME, Texts.pressedChunk(Texts.bytes(7, 0, 'a', 9, 1), seven)));
        int[] pair = Texts.of("abababa");
        made("6 of 7", pair, 7, Texts.join(Texts.NAME, Texts.pressedChunk(Texts.bytes(7, 4, 'a', 'b', 5, 2), pair)));
    }

    private static void eighth(int n, int k, int block, boolean pressed) {
        SnapHouse x = Due.tape(copyAtTheEnd(n, k));
        String what = n + " bytes, the last " + k + " copied";
        Due.is(what + ": press()", x.press(), block);
        Due.is(what + ": stream()", x.stream(n), 18 + (pressed ? block : n));
        Due.is(what + ": TYPE", x.out(10), pressed ? 0 : 1);
    }

    private static void piecesOfSeveralSizes() {
        SnapHouse x = new SnapHouse();
        x.fill(5, 1_000);
        int[] sizes = {1, 4, 5, 6, 64, 333, 999, 1_000, 1_001};
        // Of k alike bytes: a BLOCK of LENGTH, LITERAL and COPIES, or the bytes themselves up to five.
        int[] due = {10 + 9 * 1_000, 10 + 12 * 250, 10 + 13 * 200, 10 + 166 * 13 + 12, 10 + 15 * 14 + 14,
            10 + 3 * (8 + 4 + 5 * 3 + 3) + 9, 10 + (8 + 4 + 15 * 3 + 3) + 9, 10 + 8 + 4 + 15 * 3 + 3, 10 + 8 + 4 + 15 * 3 + 3};
        for (int k = 0; k < sizes.length; k++) {
            Due.is("1,000 alike in PIECES of " + sizes[k], x.stream(sizes[k]), due[k]);
        }
    }

    private static void piecesArePressedApart() {
        // The second PIECE is the first one again, yet no COPY goes back into another PIECE.
        int[] eight = Texts.of("abcdefgh");
        int[] text = Texts.join(eight, eight);
        made("twice the same", text, 8, Texts.join(Texts.NAME, Texts.plainChunk(eight), Texts.plainChunk(eight)));
        int[] pressable = Texts.of("abababababab");
        int[] block = {12, 4, 'a', 'b', 6 << 2 | 1, 2};
        made("not from the PIECE ahead", Texts.join(pressable, pressable), 12,
            Texts.join(Texts.NAME, Texts.pressedChunk(block, pressable), Texts.pressedChunk(block, pressable)));
    }

    private static void wrongSizes() {
        SnapHouse x = Due.tape(1, 2, 3);
        x.press();
        for (int piece : new int[] {0, -1, 20_001, Integer.MAX_VALUE, Integer.MIN_VALUE}) {
            Due.is("stream(" + piece + ")", x.stream(piece), NONE);
            Due.outIs("OUT stays", x, 3, 8, 1, 2, 3);
        }
        Due.is("stream(20,000)", x.stream(20_000), 21);
    }

    private static void theRoomOfOut() {
        SnapHouse x = new SnapHouse();
        x.fill(7, 6_542);
        Due.is("24,000 just fit", x.stream(3), 24_000);
        Due.is("the first", x.out(0), 255);
        Due.is("the last", x.out(23_999), 7);
        Due.noByteOfOut(x, 24_000);
        x.fill(7, 1);
        Due.is("24,001 are too many", x.stream(3), NONE);
        Due.is("OUT stays", x.about(1), 24_000);
        x.fill(7, 13_457);
        Due.is("far too many", x.stream(1), NONE);
        Due.is("OUT stays", x.about(1), 24_000);
        Due.is("one large PIECE", x.stream(20_000), 10 + 8 + 3 + 2 + 313 * 3);
    }

    private static void openedAgain() {
        int[] text = Texts.join(Texts.counting(3_000), Texts.same(1, 2_000), Texts.counting(1_500));
        SnapHouse x = Due.tape(text);
        for (int piece : new int[] {100, 512, 1_000, 4_096, 20_000}) {
            x.stream(piece);
            x.take();
            Due.is("unstream() of PIECES of " + piece, x.unstream(), text.length);
            Due.faultIs("PIECES of " + piece, x, 0, NONE, 0, NONE);
            Due.is("CHUNKS", x.about(4), 1 + (text.length + piece - 1) / piece);
            x.take();
            Due.is("the bytes again", x.sum(0, text.length, false), Texts.crc(text));
        }
    }
}
