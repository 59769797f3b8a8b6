/** Promise 9: PRESSING, told to the byte. */
public final class PressTest {
    public static void main(String[] args) {
        theLengthInFewBytes();
        literalsOfEverySize();
        noFourTwice();
        theLatestPlaceIsTaken();
        fourBytesAtTheVeryEnd();
        placesInsideACopyCount();
        copiesOfEverySize();
        copiesFromFar();
        copiesUpToTheEnd();
        literalsBetweenCopies();
        pressingChangesOutAlone();
        aFullTape();
        Due.end("PressTest");
    }

    static void pressed(String what, int[] text, int[] want) {
        SnapHouse x = Due.tape(text);
        Due.is(what + ": press()", x.press(), want.length);
        Due.is(what + ": take()", x.take(), want.length);
        Due.is(what + ": its bytes", x.sum(0, want.length, false), Texts.crc(want));
        Due.is(what + ": open()", x.open(), text.length);
        Due.is(what + ": take() again", x.take(), text.length);
        Due.is(what + ": the bytes again", x.sum(0, text.length, false), Texts.crc(text));
        if (want.length < 200) {
            SnapHouse y = Due.tape(text);
            y.press();
            Due.outIs(what, y, want);
        }
    }

    private static void theLengthInFewBytes() {
        pressed("none", new int[0], Texts.bytes(0));
        pressed("one", Texts.bytes(200), Texts.bytes(1, 0, 200));
        int[] text = Texts.counting(127);
        pressed("127", text, Texts.join(Texts.bytes(127, 240, 126), text));
        text = Texts.counting(128);
        pressed("128", text, Texts.join(Texts.bytes(128, 1, 240, 127), text));
        SnapHouse x = new SnapHouse();
        x.fill(0, 16_383);
        x.press();
        Due.is("16,383: the LENGTH", x.out(0) << 16 | x.out(1) << 8 | x.out(2), 255 << 16 | 127 << 8);
        x.fill(0, 1);
        x.press();
        Due.is("16,384: the LENGTH", x.out(0) << 16 | x.out(1) << 8 | x.out(2), 128 << 16 | 128 << 8 | 1);
    }

    private static void literalsOfEverySize() {
        int[] text = Texts.counting(60);
        pressed("60", text, Texts.join(Texts.bytes(60, 59 << 2), text));
        text = Texts.counting(61);
        pressed("61", text, Texts.join(Texts.bytes(61, 60 << 2, 60), text));
        text = Texts.counting(256);
        pressed("256", text, Texts.join(Texts.bytes(128, 2, 60 << 2, 255), text));
        text = Texts.counting(257);
        pressed("257", text, Texts.join(Texts.bytes(129, 2, 61 << 2, 0, 1), text));
        text = Texts.counting(9_000);
        pressed("9,000", text, Texts.join(Texts.bytes(9_000 & 127 | 128, 9_000 >> 7, 61 << 2, 8_999 & 255, 8_999 >> 8), text));
    }

    private static void noFourTwice() {
        pressed("three alike", Texts.of("abcabc"), Texts.join(Texts.bytes(6, 20), Texts.of("abcabc")));
        pressed("aaaa", Texts.of("aaaa"), Texts.join(Texts.bytes(4, 12), Texts.of("aaaa")));
    }

    private static void theLatestPlaceIsTaken() {
        // abcd1 abcd2 abcd: the second abcd goes 5 back, the third 5 back, not 10.
        pressed("latest", Texts.of("abcd1abcd2abcd"), Texts.join(Texts.bytes(14, 4 << 2), Texts.of("abcd1"),
            Texts.bytes(1, 5, 0, '2', 1, 5)));
        // The latest place wins though an earlier one has more bytes alike.
        pressed("latest, not longest", Texts.of("abcdefgh.abcdX,abcdefgh"), Texts.join(Texts.bytes(23, 8 << 2),
            Texts.of("abcdefgh."), Texts.bytes(1, 9, 1 << 2), Texts.of("X,"), Texts.bytes(1, 6),
            Texts.bytes(1, 15)));
        pressed("one back", Texts.of("aaaaa"), Texts.bytes(5, 0, 'a', 1, 1));
        pressed("two back", Texts.of("ababab"), Texts.bytes(6, 4, 'a', 'b', 1, 2));
    }

    private static void fourBytesAtTheVeryEnd() {
        pressed("p + 4 = n", Texts.of("abcd.abcd"), Texts.join(Texts.bytes(9, 16), Texts.of("abcd."), Texts.bytes(1, 5)));
        pressed("p + 4 > n", Texts.of("abcd.abc"), Texts.join(Texts.bytes(8, 28), Texts.of("abcd.abc")));
    }

    private static void placesInsideACopyCount() {
        // cdef stands at 2 and at 7, inside the COPY that begins at 6 - of bcdef: the later one is taken.
        pressed("inside a COPY", Texts.of("abcdefbcdef.cdef"), Texts.join(Texts.bytes(16, 20), Texts.of("abcdef"),
            Texts.bytes(1 | 1 << 2, 5, 0, '.', 1, 5)));
        // fb.. crosses from a LITERAL into a COPY.
        pressed("across", Texts.of("abcdefbcdef.efbcd"), Texts.join(Texts.bytes(17, 20), Texts.of("abcdef"),
            Texts.bytes(1 | 1 << 2, 5, 0, '.', 1 | 1 << 2, 8)));
    }

    /** A text that begins by a LITERAL of one byte and goes on by k bytes to copy, 1 back, and how it is pressed. */
    private static void copiesOf(int k, int... elements) {
        int n = k + 1;
        int[] length = n < 128 ? Texts.bytes(n) : Texts.bytes(n & 127 | 128, n >> 7);
        pressed(k + " to copy", Texts.same('a', n), Texts.join(length, Texts.bytes(0, 'a'), elements));
    }

    private static void copiesOfEverySize() {
        copiesOf(4, 1, 1);
        copiesOf(11, 7 << 2 | 1, 1);
        copiesOf(12, 11 << 2 | 2, 1, 0);
        copiesOf(64, 63 << 2 | 2, 1, 0);
        copiesOf(65, 59 << 2 | 2, 1, 0, 1 << 2 | 1, 1);
        copiesOf(67, 59 << 2 | 2, 1, 0, 3 << 2 | 1, 1);
        copiesOf(68, 63 << 2 | 2, 1, 0, 0 << 2 | 1, 1);
        copiesOf(71, 63 << 2 | 2, 1, 0, 3 << 2 | 1, 1);
        copiesOf(128, 63 << 2 | 2, 1, 0, 63 << 2 | 2, 1, 0);
        copiesOf(129, 63 << 2 | 2, 1, 0, 59 << 2 | 2, 1, 0, 1 << 2 | 1, 1);
        copiesOf(131, 63 << 2 | 2, 1, 0, 59 << 2 | 2, 1, 0, 3 << 2 | 1, 1);
        copiesOf(132, 63 << 2 | 2, 1, 0, 63 << 2 | 2, 1, 0, 1, 1);
    }

    private static void copiesFromFar() {
        farCopy(255, 4, 0 << 5 | 0 << 2 | 1, 255);
        farCopy(256, 4, 1 << 5 | 0 << 2 | 1, 0);
        farCopy(2_047, 4, 7 << 5 | 0 << 2 | 1, 255);
        farCopy(2_047, 11, 7 << 5 | 7 << 2 | 1, 255);
        farCopy(2_047, 12, 11 << 2 | 2, 255, 7);
        farCopy(2_048, 4, 3 << 2 | 2, 0, 8);
        farCopy(2_048, 11, 10 << 2 | 2, 0, 8);
        farCopy(9_000, 66, 59 << 2 | 2, 9_000 & 255, 9_000 >> 8, 5 << 2 | 2, 9_000 & 255, 9_000 >> 8);
    }

    private static void farCopy(int back, int k, int... elements) {
        int[] literal = Texts.counting(back);
        int n = back + k;
        int u = back - 1;
        int[] tag = u < 256 ? Texts.bytes(60 << 2, u) : Texts.bytes(61 << 2, u & 255, u >> 8);
        pressed(k + " from " + back + " back", Texts.join(literal, Texts.part(literal, 0, k)),
            Texts.join(Texts.bytes(n & 127 | 128, n >> 7), tag, literal, elements));
    }

    private static void copiesUpToTheEnd() {
        pressed("beyond p", Texts.of("abcabcabcabc"), Texts.join(Texts.bytes(12, 8), Texts.of("abc"), Texts.bytes(5 << 2 | 1, 3)));
        pressed("not past a difference", Texts.of("abcdeZabcdeY"), Texts.join(Texts.bytes(12, 20), Texts.of("abcdeZ"),
            Texts.bytes(1 << 2 | 1, 6, 0, 'Y')));
    }

    private static void literalsBetweenCopies() {
        // Two COPIES with no LITERAL between them.
        pressed("one at once behind the other", Texts.of("abcdefgh.abcdefgh,efghabcd"), Texts.join(
            Texts.bytes(26, 32), Texts.of("abcdefgh."), Texts.bytes(4 << 2 | 1, 9, 0, ',', 1, 5, 1, 13)));
    }

    private static void pressingChangesOutAlone() {
        SnapHouse x = Due.tape(1, 2, 3);
        x.press();
        Due.tapeIs("behind a press()", x, 1, 2, 3);
        Due.is("no open() was", x.fault(0), SnapHouse.NONE);
        Due.is("pressed again", x.press(), 5);
        Due.outIs("pressed again", x, 3, 8, 1, 2, 3);
        x.cut(0);
        Due.is("pressed anew", x.press(), 1);
        Due.outIs("pressed anew", x, 0);
    }

    private static void aFullTape() {
        SnapHouse x = new SnapHouse();
        x.fill(9, 20_000);
        // 3 bytes of LENGTH, a LITERAL of 1, 312 COPIES of 64, one of 31.
        Due.is("20,000 alike", x.press(), 3 + 2 + 312 * 3 + 3);
        x.take();
        Due.is("opened", x.open(), 20_000);
        Due.is("its ELEMENTS", x.about(2), 314);
    }
}
