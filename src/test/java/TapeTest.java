/** Promises 1 to 8, 16 and 17: bytes come behind the TAPE, are cut, set, read, summed and taken from OUT. */
public final class TapeTest {
    private static final int NONE = SnapHouse.NONE;
    private static final int MOST = Integer.MAX_VALUE;
    private static final int LEAST = Integer.MIN_VALUE;

    public static void main(String[] args) {
        aNewObjectIsEmpty();
        feedBringsTwentyBytes();
        feedKeepsToItsRoom();
        fillBringsOneByteManyTimes();
        fillRefusesOtherNumbers();
        againRepeatsWhatStandsThere();
        againRefusesOtherNumbers();
        cutKeepsTheFirstBytes();
        setChangesOneByte();
        takeCopiesOut();
        takeKeepsToItsRoom();
        sumOfNoneSomeAndAll();
        sumOfBytesThatArentThere();
        outThrows();
        objectsAreApart();
        Due.end("TapeTest");
    }

    private static void aNewObjectIsEmpty() {
        SnapHouse x = new SnapHouse();
        Due.tapeIs("new", x);
        Due.outIs("new", x);
        for (int what = 0; what < 6; what++) {
            Due.is("new: about(" + what + ")", x.about(what), 0);
            Due.is("new: fault(" + what + ")", x.fault(what), NONE);
        }
        Due.noElement(x, 0);
        Due.noChunk(x, 0);
        Due.is("NONE", NONE, -1);
    }

    private static void feedBringsTwentyBytes() {
        SnapHouse x = new SnapHouse();
        Due.is("feed", x.feed(0x01020304, 0xFFFEFDFC, 0, 0x80000000, 0x0000007F), 20);
        int[] want = {1, 2, 3, 4, 255, 254, 253, 252, 0, 0, 0, 0, 128, 0, 0, 0, 0, 0, 0, 127};
        Due.tapeIs("feed", x, want);
        Due.is("feed again", x.feed(0x09080706, 0, 0, 0, 5), 40);
        Due.is("the 21st byte", x.tape(20), 9);
        Due.is("the 40th byte", x.tape(39), 5);
        Due.is("the 20th byte", x.tape(19), 127);
    }

    private static void feedKeepsToItsRoom() {
        SnapHouse x = new SnapHouse();
        Due.is("fill", x.fill(1, 19_980), 19_980);
        Due.is("feed up to 20,000", x.feed(0, 0, 0, 0, 2), 20_000);
        Due.is("the last byte", x.tape(19_999), 2);
        Due.is("feed past 20,000", x.feed(3, 3, 3, 3, 3), NONE);
        Due.is("cut", x.cut(19_981), 19_981);
        Due.is("feed past by one", x.feed(3, 3, 3, 3, 3), NONE);
        Due.is("none has come", x.about(0), 19_981);
        Due.is("behind the end", x.tape(19_981), NONE);
    }

    private static void fillBringsOneByteManyTimes() {
        SnapHouse x = new SnapHouse();
        Due.is("fill none", x.fill(9, 0), 0);
        Due.is("fill 3", x.fill(255, 3), 3);
        Due.is("fill 2", x.fill(0, 2), 5);
        Due.tapeIs("fill", x, 255, 255, 255, 0, 0);
        Due.is("fill up to 20,000", x.fill(7, 19_995), 20_000);
        Due.is("the last one", x.tape(19_999), 7);
        Due.is("fill none into a full one", x.fill(7, 0), 20_000);
        Due.is("fill one past", x.fill(7, 1), NONE);
        SnapHouse y = new SnapHouse();
        Due.is("fill 20,000 at once", y.fill(3, 20_000), 20_000);
        Due.is("the first one", y.tape(0), 3);
    }

    private static void fillRefusesOtherNumbers() {
        SnapHouse x = Due.tape(1, 2, 3);
        int[][] wrong = {{-1, 1}, {256, 1}, {256, 0}, {-1, 0}, {0, -1}, {0, 20_001}, {0, 19_998}, {0, MOST}, {0, LEAST},
            {MOST, 1}, {LEAST, 1}, {MOST, MOST}};
        for (int[] pair : wrong) {
            Due.is("fill(" + pair[0] + ", " + pair[1] + ")", x.fill(pair[0], pair[1]), NONE);
        }
        Due.tapeIs("fill refused", x, 1, 2, 3);
    }

    private static void againRepeatsWhatStandsThere() {
        SnapHouse x = Due.tape(1, 2, 3, 4);
        Due.is("again within", x.again(1, 2), 6);
        Due.tapeIs("again within", x, 1, 2, 3, 4, 2, 3);
        Due.is("again of what just came", x.again(4, 7), 13);
        Due.tapeIs("again of what just came", x, 1, 2, 3, 4, 2, 3, 2, 3, 2, 3, 2, 3, 2);
        Due.is("again of none", x.again(0, 0), 13);
        Due.is("again of the last", x.again(12, 3), 16);
        Due.is("the last", x.tape(15), 2);
        Due.is("again up to 20,000", x.again(0, 19_984), 20_000);
        Due.is("byte 16", x.tape(16), 1);
        Due.is("byte 17", x.tape(17), 2);
        Due.is("byte 19,999", x.tape(19_999), x.tape(19_983));
        Due.is("again one past", x.again(0, 1), NONE);
        Due.is("again of none in a full one", x.again(19_999, 0), 20_000);
    }

    private static void againRefusesOtherNumbers() {
        SnapHouse x = Due.tape(1, 2, 3);
        int[][] wrong = {{-1, 1}, {3, 1}, {3, 0}, {-1, 0}, {0, -1}, {0, 20_001}, {0, 19_998}, {0, MOST}, {0, LEAST},
            {MOST, 1}, {LEAST, 1}, {MOST, MOST}, {2, MOST}};
        for (int[] pair : wrong) {
            Due.is("again(" + pair[0] + ", " + pair[1] + ")", x.again(pair[0], pair[1]), NONE);
        }
        Due.tapeIs("again refused", x, 1, 2, 3);
        Due.is("again on an empty TAPE", new SnapHouse().again(0, 0), NONE);
        Due.is("again of one just fits", x.again(0, 19_997), 20_000);
    }

    private static void cutKeepsTheFirstBytes() {
        SnapHouse x = Due.tape(1, 2, 3, 4);
        Due.is("cut(5)", x.cut(5), NONE);
        Due.is("cut(-1)", x.cut(-1), NONE);
        Due.is("cut(MOST)", x.cut(MOST), NONE);
        Due.is("cut(LEAST)", x.cut(LEAST), NONE);
        Due.tapeIs("cut refused", x, 1, 2, 3, 4);
        Due.is("cut(4)", x.cut(4), 4);
        Due.is("cut(2)", x.cut(2), 2);
        Due.tapeIs("cut(2)", x, 1, 2);
        Due.is("cut(3)", x.cut(3), NONE);
        Due.is("fill", x.fill(9, 1), 3);
        Due.tapeIs("fill behind a cut", x, 1, 2, 9);
        Due.is("cut(0)", x.cut(0), 0);
        Due.tapeIs("cut(0)", x);
    }

    private static void setChangesOneByte() {
        SnapHouse x = Due.tape(1, 2, 3);
        Due.is("set(1, 255)", x.set(1, 255), 2);
        Due.is("set(1, 0)", x.set(1, 0), 255);
        Due.is("set(0, 7)", x.set(0, 7), 1);
        Due.is("set(2, 8)", x.set(2, 8), 3);
        int[][] wrong = {{3, 0}, {-1, 0}, {0, 256}, {0, -1}, {MOST, 1}, {LEAST, 1}, {1, MOST}, {1, LEAST}, {20_000, 1}};
        for (int[] pair : wrong) {
            Due.is("set(" + pair[0] + ", " + pair[1] + ")", x.set(pair[0], pair[1]), NONE);
        }
        Due.tapeIs("set", x, 7, 0, 8);
        x.cut(2);
        Due.is("set behind a cut", x.set(2, 1), NONE);
        for (int i : new int[] {-1, 2, 20_000, MOST, LEAST}) {
            Due.is("tape(" + i + ")", x.tape(i), NONE);
        }
    }

    private static void takeCopiesOut() {
        SnapHouse x = Due.tape(5);
        Due.is("take of an empty OUT", x.take(), 0);
        Due.tapeIs("take of an empty OUT", x);
        Due.load(x, 5);
        x.press();
        Due.is("take", x.take(), 3);
        Due.tapeIs("take", x, 1, 0, 5);
        Due.outIs("OUT stays behind a take", x, 1, 0, 5);
        x.set(2, 6);
        x.cut(1);
        x.fill(77, 4);
        Due.outIs("the TAPE is apart from OUT", x, 1, 0, 5);
        Due.is("take again", x.take(), 3);
        Due.tapeIs("take again", x, 1, 0, 5);
    }

    private static void takeKeepsToItsRoom() {
        SnapHouse x = new SnapHouse();
        x.fill(7, 6_662);
        Due.is("a STREAM of 20,000", x.stream(4), 20_000);
        Due.is("take 20,000", x.take(), 20_000);
        Due.is("its beginning", x.tape(0), 255);
        Due.is("its end", x.tape(19_999), 7);
        x.cut(0);
        x.fill(7, 6_663);
        Due.is("a STREAM of 20,001", x.stream(4), 20_001);
        Due.is("take 20,001", x.take(), NONE);
        Due.is("the TAPE stays", x.about(0), 6_663);
        Due.is("its first byte stays", x.tape(0), 7);
    }

    private static void sumOfNoneSomeAndAll() {
        int[] text = Texts.of("0123456789");
        SnapHouse x = Due.tape(text);
        for (int i = 0; i <= text.length; i++) {
            for (int n = 0; i + n <= text.length; n++) {
                int[] part = Texts.part(text, i, i + n);
                Due.is("sum(" + i + ", " + n + ", false)", x.sum(i, n, false), Texts.crc(part));
                Due.is("sum(" + i + ", " + n + ", true)", x.sum(i, n, true), Texts.masked(part));
            }
        }
        Due.is("the check of CRC-32C", x.sum(1, 9, false), 0xE3069283);
        Due.is("none of an empty TAPE", new SnapHouse().sum(0, 0, false), 0);
        Due.is("none of an empty TAPE, masked", new SnapHouse().sum(0, 0, true), 0xA282EAD8);
        Due.load(x, Texts.same(255, 32));
        Due.is("32 times 255", x.sum(0, 32, false), 0x62A8AB43);
        int[] high = new int[256];
        for (int b = 0; b < 256; b++) {
            high[b] = 255 - b;
        }
        Due.load(x, high);
        Due.is("every byte", x.sum(0, 256, false), Texts.crc(high));
        Due.is("every byte, masked", x.sum(0, 256, true), Texts.masked(high));
    }

    private static void sumOfBytesThatArentThere() {
        SnapHouse x = Due.tape(1, 2, 3);
        int[][] wrong = {{0, 4}, {3, 1}, {4, 0}, {-1, 1}, {-1, 0}, {-1, 5}, {0, -1}, {1, -1}, {3, -1}, {MOST, 1}, {1, MOST},
            {MOST, MOST}, {LEAST, 0}, {0, LEAST}, {LEAST, LEAST}, {LEAST, MOST}, {MOST, LEAST}};
        for (int[] pair : wrong) {
            Due.is("sum(" + pair[0] + ", " + pair[1] + ", false)", x.sum(pair[0], pair[1], false), 0);
            Due.is("sum(" + pair[0] + ", " + pair[1] + ", true)", x.sum(pair[0], pair[1], true), 0);
        }
        x.cut(2);
        Due.is("sum behind a cut", x.sum(0, 3, true), 0);
    }

    private static void outThrows() {
        SnapHouse x = Due.tape(200);
        Due.noByteOfOut(x, 0);
        x.press();
        Due.is("out(2)", x.out(2), 200);
        for (int i : new int[] {-1, 3, 24_000, MOST, LEAST}) {
            Due.noByteOfOut(x, i);
        }
        x.cut(0);
        x.press();
        Due.is("out(0)", x.out(0), 0);
        Due.noByteOfOut(x, 1);
        Due.noByteOfOut(x, 2);
    }

    private static void objectsAreApart() {
        SnapHouse x = Due.tape(1, 2);
        SnapHouse y = Due.tape(3);
        x.press();
        Due.tapeIs("x", x, 1, 2);
        Due.tapeIs("y", y, 3);
        Due.is("OUT of y", y.about(1), 0);
        y.open();
        Due.is("no open() of x", x.fault(0), NONE);
    }
}
