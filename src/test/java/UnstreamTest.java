/** Promises 12, 13, 15 and 18: a STREAM opened, its fault, and what it consists of. */
public final class UnstreamTest {
    private static final int NONE = SnapHouse.NONE;
    private static final int[] ABC = Texts.plainChunk(Texts.of("abc"));
    private static final int[] XS_BLOCK = {8, 0, 'x', 3 << 2 | 1, 1};
    private static final int[] XS = Texts.pressedChunk(XS_BLOCK, Texts.same('x', 8));

    public static void main(String[] args) {
        everyType();
        chunksThatGiveNone();
        faultBegin();
        faultCut();
        faultName();
        faultType();
        faultShort();
        faultBlock();
        faultRoom();
        faultSum();
        theLeastOfSeveral();
        theFirstChunkThatHasOne();
        outAndChunksStayBehindAFault();
        openAndUnstreamShareTheFault();
        theFirstThousandAreKept();
        aboutOthers();
        Due.end("UnstreamTest");
    }

    static void opened(String what, int[] stream, int[] want) {
        SnapHouse x = Due.tape(stream);
        Due.is(what + ": unstream()", x.unstream(), want.length);
        Due.faultIs(what, x, 0, NONE, 0, NONE);
        Due.tapeIs(what, x, stream);
        Due.outIs(what, x, want);
    }

    static void faulty(String what, int fault, int place, int[]... parts) {
        faultyBlock(what, fault, place, 0, NONE, parts);
    }

    static void faultyBlock(String what, int fault, int place, int inBlock, int placeInBlock, int[]... parts) {
        SnapHouse x = Due.tape(Texts.join(parts));
        Due.is(what + ": unstream()", x.unstream(), -2);
        Due.faultIs(what, x, fault, place, inBlock, placeInBlock);
        Due.is(what + ": OUT stays", x.about(1), 0);
        Due.is(what + ": no CHUNKS", x.about(4), 0);
        Due.is(what + ": none skipped", x.about(5), 0);
        Due.noChunk(x, 0);
    }

    private static void everyType() {
        int[] stream = Texts.join(Texts.NAME, ABC, Texts.chunk(254, Texts.same(0, 5)), XS, Texts.NAME,
            Texts.chunk(128, new int[0]), Texts.chunk(253, Texts.bytes(1)), ABC);
        opened("every TYPE", stream, Texts.of("abcxxxxxxxxabc"));
        SnapHouse x = Due.tape(stream);
        x.unstream();
        Due.is("CHUNKS", x.about(4), 8);
        Due.is("skipped", x.about(5), 3);
        Due.chunkIs(x, 0, 255, 0, 6, 0, 0);
        Due.chunkIs(x, 1, 1, 10, 7, 3, 0);
        Due.chunkIs(x, 2, 254, 21, 5, 0, 3);
        Due.chunkIs(x, 3, 0, 30, 9, 8, 3);
        Due.chunkIs(x, 4, 255, 43, 6, 0, 11);
        Due.chunkIs(x, 5, 128, 53, 0, 0, 11);
        Due.chunkIs(x, 6, 253, 57, 1, 0, 11);
        Due.chunkIs(x, 7, 1, 62, 7, 3, 11);
        for (int i : new int[] {8, -1, 1_000, 5_000, Integer.MAX_VALUE, Integer.MIN_VALUE, 858_993_460, 429_496_730}) {
            Due.noChunk(x, i);
        }
        Due.is("no ELEMENTS of an open()", x.about(2), 0);
        Due.is("no LITERALS of an open()", x.about(3), 0);
        Due.noElement(x, 0);
    }

    private static void chunksThatGiveNone() {
        opened("the name alone", Texts.NAME, new int[0]);
        opened("a plain one of none", Texts.join(Texts.NAME, Texts.plainChunk(new int[0])), new int[0]);
        opened("a pressed one of none", Texts.join(Texts.NAME, Texts.pressedChunk(Texts.bytes(0), new int[0])), new int[0]);
        SnapHouse x = new SnapHouse();
        Due.load(x, Texts.join(Texts.NAME, Texts.bytes(200, 0, 1, 0)));
        x.fill(9, 256);
        Due.is("256 bytes skipped", x.unstream(), 0);
        Due.chunkIs(x, 1, 200, 10, 256, 0, 0);
    }

    private static void faultBegin() {
        faulty("an empty TAPE", 11, 0);
        faulty("a plain one first", 11, 0, ABC);
        faulty("a skipped one first", 11, 0, Texts.chunk(254, Texts.bytes(1)), Texts.NAME);
        faulty("and CUT", 11, 0, Texts.bytes(254));
        faulty("and of a wrong TYPE", 11, 0, Texts.chunk(2, new int[0]));
        faulty("and SHORT", 11, 0, Texts.chunk(0, new int[0]));
    }

    private static void faultCut() {
        faulty("the TYPE alone", 12, 0, Texts.bytes(255));
        faulty("one of three", 12, 0, Texts.bytes(255, 6));
        faulty("two of three", 12, 0, Texts.bytes(255, 6, 0));
        faulty("a header alone", 12, 0, Texts.bytes(255, 6, 0, 0));
        faulty("one byte less", 12, 0, Texts.part(Texts.NAME, 0, 9));
        faulty("a second one", 12, 10, Texts.NAME, Texts.part(ABC, 0, 10));
        faulty("a second one's TYPE", 12, 10, Texts.NAME, Texts.bytes(1));
        faulty("a skipped one", 12, 10, Texts.NAME, Texts.bytes(128, 2, 0, 0, 1));
        faulty("256 that aren't there", 12, 10, Texts.NAME, Texts.bytes(128, 0, 1, 0, 1));
        faulty("65,536 that aren't there", 12, 10, Texts.NAME, Texts.bytes(128, 0, 0, 1, 1));
        faulty("all that can be told", 12, 10, Texts.NAME, Texts.bytes(128, 255, 255, 255, 1));
        faulty("of a wrong TYPE", 12, 10, Texts.NAME, Texts.bytes(2, 1, 0, 0));
    }

    private static void faultName() {
        for (int i = 4; i < 10; i++) {
            faulty("another byte " + i, 13, 0, Texts.with(Texts.NAME, i, 'q'));
        }
        faulty("none", 13, 0, Texts.chunk(255, new int[0]));
        faulty("five", 13, 0, Texts.chunk(255, Texts.of("sNaPp")));
        faulty("seven", 13, 0, Texts.chunk(255, Texts.of("sNaPpYY")));
        faulty("five, though a Y comes", 13, 10, Texts.NAME, Texts.chunk(255, Texts.of("sNaPp")), Texts.bytes('Y', 0, 0, 0));
        faulty("a later one", 13, 21, Texts.NAME, ABC, Texts.chunk(255, Texts.of("SNAPPY")));
    }

    private static void faultType() {
        faulty("2", 14, 10, Texts.NAME, Texts.chunk(2, Texts.bytes(1)));
        faulty("127", 14, 10, Texts.NAME, Texts.chunk(127, new int[0]));
        faulty("64, behind others", 14, 21, Texts.NAME, ABC, Texts.chunk(64, new int[0]));
        for (int type = 128; type < 255; type++) {
            SnapHouse x = Due.tape(Texts.join(Texts.NAME, Texts.chunk(type, Texts.bytes(1, 2))));
            Due.is("TYPE " + type, x.unstream(), 0);
            Due.is("TYPE " + type + " is skipped", x.about(5), 1);
        }
        for (int type = 2; type < 128; type++) {
            SnapHouse x = Due.tape(Texts.join(Texts.NAME, Texts.chunk(type, Texts.bytes(1, 2))));
            Due.is("TYPE " + type, x.unstream(), -2);
            Due.is("TYPE " + type + " is a fault", x.fault(0), 14);
        }
    }

    private static void faultShort() {
        for (int n = 0; n < 4; n++) {
            faulty("pressed, " + n, 15, 10, Texts.NAME, Texts.chunk(0, Texts.same(0, n)));
            faulty("plain, " + n, 15, 10, Texts.NAME, Texts.chunk(1, Texts.same(0, n)), ABC);
        }
    }

    private static void blockIs(String what, int fault, int place, int... block) {
        int[] sum = {1, 2, 3, 4};
        faultyBlock(what, 16, 21, fault, place, Texts.NAME, ABC, Texts.chunk(0, Texts.join(sum, block)), Texts.same('a', 40));
    }

    private static void faultBlock() {
        blockIs("no LENGTH", 1, 0);
        blockIs("a LENGTH that ends in the BLOCK", 1, 0, 129);
        blockIs("ROOM", 2, 0, 161, 156, 1);
        blockIs("CUT", 3, 1, 5, 16, 1, 2, 3, 4);
        blockIs("CUT, a COPY", 3, 3, 5, 0, 'a', 2, 1);
        // Three bytes stand ahead in OUT, but they are another CHUNK's.
        blockIs("BACK", 4, 3, 5, 0, 'a', 1, 2);
        blockIs("BACK at once", 4, 1, 5, 1, 1);
        blockIs("OVER", 5, 3, 4, 0, 'a', 1, 1);
        blockIs("UNDER", 6, 3, 4, 0, 'a');
        blockIs("UNDER at once", 6, 1, 4);
    }

    private static void faultRoom() {
        int[] first = Texts.pressedChunk(Texts.blockOfSame(1, 10_000), Texts.same(1, 10_000));
        int[] second = Texts.pressedChunk(Texts.blockOfSame(2, 9_997), Texts.same(2, 9_997));
        int[] stream = Texts.join(Texts.NAME, first, second);
        SnapHouse x = Due.tape(Texts.join(stream, ABC, Texts.plainChunk(new int[0]), Texts.chunk(254, Texts.same(7, 9))));
        Due.is("20,000 just fit", x.unstream(), 20_000);
        Due.is("the last", x.out(19_999), 'c');
        Due.is("the 10,000th", x.out(9_999), 1);
        Due.is("the next", x.out(10_000), 2);
        Due.noByteOfOut(x, 20_000);
        faulty("20,001", 17, stream.length, stream, Texts.plainChunk(Texts.of("abcd")));
        int[] four = Texts.pressedChunk(Texts.bytes(4, 12, 1, 2, 3, 4), Texts.bytes(1, 2, 3, 4));
        faulty("20,001, pressed", 17, stream.length, stream, four);
        faulty("ROOM and SUM", 17, stream.length, stream, Texts.with(Texts.plainChunk(Texts.of("abcd")), 4, 0));
        faultyBlock("the BLOCK's fault and ROOM", 16, stream.length, 6, 6, stream,
            Texts.chunk(0, Texts.bytes(0, 0, 0, 0, 5, 12, 1, 2, 3, 4)));
        int[] large = Texts.pressedChunk(Texts.blockOfSame(3, 10_001), Texts.same(3, 10_001));
        faulty("a large BLOCK", 17, 10 + first.length, Texts.NAME, first, large);
        SnapHouse y = Due.tape(Texts.join(stream, ABC, ABC));
        Due.is("full, and more", y.unstream(), -2);
        Due.faultIs("full, and more", y, 17, stream.length + ABC.length, 0, NONE);
    }

    private static void faultSum() {
        for (int i = 4; i < 8; i++) {
            faulty("plain, byte " + i, 18, 10, Texts.NAME, Texts.with(ABC, i, ABC[i] ^ 128));
            faulty("pressed, byte " + i, 18, 21, Texts.NAME, ABC, Texts.with(XS, i, XS[i] ^ 1));
        }
        faulty("other bytes", 18, 10, Texts.NAME, Texts.with(ABC, 10, 'd'));
        faulty("other bytes, pressed", 18, 10, Texts.NAME, Texts.with(XS, 10, 'y'));
        int[] text = Texts.of("abc");
        int[] unmasked = Texts.lowestFirst(Texts.crc(text) & 0xFFFFFFFFL, 4);
        faulty("not masked", 18, 10, Texts.NAME, Texts.chunk(1, Texts.join(unmasked, text)));
        faulty("of none, not masked", 18, 10, Texts.NAME, Texts.chunk(1, Texts.same(0, 4)));
        faulty("that of the BLOCK's own bytes", 18, 10, Texts.NAME, Texts.chunk(0, Texts.join(Texts.sumOf(XS_BLOCK), XS_BLOCK)));
    }

    private static void theLeastOfSeveral() {
        faulty("BEGIN and CUT", 11, 0, Texts.bytes(0, 9, 0, 0));
        faulty("CUT and NAME", 12, 0, Texts.bytes(255, 7, 0, 0, 1, 2));
        faulty("CUT and TYPE", 12, 10, Texts.NAME, Texts.bytes(99));
        faulty("CUT and SHORT", 12, 10, Texts.NAME, Texts.bytes(1, 3, 0, 0, 1));
        faulty("CUT and what its BLOCK would be", 12, 10, Texts.NAME, Texts.bytes(0, 9, 0, 0, 1, 2, 3, 4, 255));
        faultyBlock("its BLOCK and SUM", 16, 10, 6, 1, Texts.NAME, Texts.chunk(0, Texts.bytes(0, 0, 0, 0, 1)));
    }

    private static void theFirstChunkThatHasOne() {
        faulty("SUM ahead of CUT", 18, 10, Texts.NAME, Texts.with(ABC, 4, ABC[4] ^ 1), Texts.bytes(1));
        faulty("TYPE ahead of NAME", 14, 10, Texts.NAME, Texts.chunk(3, new int[0]), Texts.chunk(255, new int[0]));
        faulty("SHORT ahead of TYPE", 15, 25, Texts.NAME, ABC, Texts.chunk(200, new int[0]), Texts.chunk(1, new int[0]),
            Texts.chunk(3, new int[0]));
    }

    private static void outAndChunksStayBehindAFault() {
        SnapHouse x = Due.tape(Texts.join(Texts.NAME, ABC, Texts.chunk(130, new int[0])));
        Due.is("unstream()", x.unstream(), 3);
        Due.load(x, Texts.join(Texts.NAME, XS, XS, Texts.chunk(131, Texts.bytes(4)), Texts.bytes(7)));
        Due.is("unstream()", x.unstream(), -2);
        Due.faultIs("behind", x, 12, 41, 0, NONE);
        Due.outIs("OUT stays", x, Texts.of("abc"));
        Due.is("CHUNKS", x.about(4), 3);
        Due.is("skipped", x.about(5), 1);
        Due.chunkIs(x, 1, 1, 10, 7, 3, 0);
        Due.chunkIs(x, 2, 130, 21, 0, 0, 3);
        Due.noChunk(x, 3);
        Due.load(x, 1, 0, 'q');
        Due.is("open()", x.open(), 1);
        Due.is("CHUNKS behind an open()", x.about(4), 3);
        Due.chunkIs(x, 1, 1, 10, 7, 3, 0);
        Due.load(x, Texts.NAME);
        Due.is("unstream()", x.unstream(), 0);
        Due.is("CHUNKS", x.about(4), 1);
        Due.is("skipped", x.about(5), 0);
        Due.noChunk(x, 1);
        Due.outIs("OUT is empty", x);
    }

    private static void openAndUnstreamShareTheFault() {
        SnapHouse x = Due.tape(Texts.join(Texts.NAME, Texts.chunk(0, Texts.bytes(0, 0, 0, 0, 9, 1, 0))));
        x.unstream();
        Due.faultIs("unstream()", x, 16, 10, 4, 1);
        x.open();
        // As a BLOCK: LENGTH 895, a LITERAL of one byte, then s, a COPY from far more back than there are.
        Due.faultIs("open() behind it", x, 4, 4, 0, NONE);
        x.unstream();
        Due.faultIs("unstream() behind it", x, 16, 10, 4, 1);
        x.press();
        x.stream(4);
        x.sum(0, 3, true);
        Due.faultIs("press() and stream() change none", x, 16, 10, 4, 1);
        x.take();
        x.unstream();
        Due.faultIs("without one", x, 0, NONE, 0, NONE);
        x.cut(0);
        x.open();
        Due.faultIs("open() of none", x, 1, 0, 0, NONE);
        x.unstream();
        Due.faultIs("unstream() of none", x, 11, 0, 0, NONE);
    }

    private static void theFirstThousandAreKept() {
        SnapHouse x = Due.tape(Texts.join(Texts.NAME, Texts.chunk(140, Texts.bytes(1)), Texts.chunk(141, Texts.bytes(1))));
        x.again(10, 10 * 600);
        Due.more(x, Texts.plainChunk(Texts.bytes(77)));
        Due.is("unstream()", x.unstream(), 1);
        Due.is("all CHUNKS", x.about(4), 1 + 2 * 601 + 1);
        Due.is("all skipped", x.about(5), 2 * 601);
        Due.chunkIs(x, 999, 140, 10 + 5 * 998, 1, 0, 0);
        Due.noChunk(x, 1_000);
        Due.noChunk(x, 1_203);
        Due.outIs("the last one counts", x, 77);
    }

    private static void aboutOthers() {
        SnapHouse x = Due.tape(Texts.NAME);
        x.unstream();
        for (int what : new int[] {-1, 6, 7, Integer.MAX_VALUE, Integer.MIN_VALUE}) {
            Due.is("about(" + what + ")", x.about(what), NONE);
            Due.is("chunk(0, " + (what == 6 ? 5 : what) + ")", x.chunk(0, what == 6 ? 5 : what), NONE);
        }
        Due.is("about(0)", x.about(0), 10);
        x.press();
        Due.is("about(1)", x.about(1), 12);
    }
}
