/** Term IV and promises 12, 13 and 15 at their edges: the last STREAM without a fault, and the first with it. */
public final class UnstreamEdgesTest {
    private static final int NONE = SnapHouse.NONE;
    private static final int[] ABC = Texts.plainChunk(Texts.of("abc"));

    public static void main(String[] args) {
        theFirstTypeIs255();
        chunksThatAreAllThere();
        aFullTapeAsAStream();
        justTheName();
        typesThatAreTaken();
        skippedTypes();
        threeAndFourBytes();
        aBlockInItsChunkAlone();
        roomOfOneBlock();
        roomOfMany();
        theLeastOfAChunk();
        sumsThatGoRound();
        keptUpToAThousand();
        asManyAsCanBe();
        faultsOneBehindTheOther();
        Due.end("UnstreamEdgesTest");
    }

    private static void faulty(String what, int fault, int place, int[]... parts) {
        UnstreamTest.faulty(what, fault, place, parts);
    }

    private static void opened(String what, int[] want, int[]... parts) {
        UnstreamTest.opened(what, Texts.join(parts), want);
    }

    private static void theFirstTypeIs255() {
        faulty("none", 11, 0);
        for (int type = 0; type < 255; type++) {
            faulty("TYPE " + type, 11, 0, Texts.with(Texts.NAME, 0, type));
            faulty("TYPE " + type + " alone", 11, 0, Texts.bytes(type));
        }
        opened("TYPE 255", new int[0], Texts.NAME);
        faulty("TYPE 255 alone", 12, 0, Texts.bytes(255));
        // A later one may be of another TYPE.
        opened("a skipped one behind it", new int[0], Texts.NAME, Texts.chunk(254, new int[0]));
    }

    /** Each CHUNK, behind a right one: cut at each of its bytes it has fault 12 at its TYPE; with no byte it isn't one. */
    private static void chunksThatAreAllThere() {
        int[][] chunks = {ABC, Texts.pressedChunk(Texts.bytes(1, 0, 'q'), Texts.of("q")), Texts.NAME,
            Texts.chunk(128, Texts.bytes(1, 2, 3)), Texts.chunk(253, Texts.bytes(1)), Texts.chunk(254, Texts.bytes(1, 2))};
        int[] given = {3, 1, 0, 0, 0, 0};
        for (int k = 0; k < chunks.length; k++) {
            int[] chunk = chunks[k];
            SnapHouse x = Due.tape(Texts.join(Texts.NAME, ABC, chunk));
            Due.is("CHUNK " + k, x.unstream(), 3 + given[k]);
            Due.chunkIs(x, 2, chunk[0], 21, chunk.length - 4, given[k], 3);
            Due.noChunk(x, 3);
            Due.is("CHUNKS", x.about(4), 3);
            Due.is("skipped ones", x.about(5), chunk[0] >= 128 && chunk[0] <= 254 ? 1 : 0);
            for (int n = 1; n < chunk.length; n++) {
                faulty("CHUNK " + k + " cut behind " + n, 12, 21, Texts.NAME, ABC, Texts.part(chunk, 0, n));
            }
            opened("CHUNK " + k + " not there", Texts.of("abc"), Texts.NAME, ABC);
        }
        for (int n = 1; n < 10; n++) {
            faulty("the name cut behind " + n, 12, 0, Texts.part(Texts.NAME, 0, n));
        }
        // Of the TYPES that are faults themselves, CUT is the lesser one.
        for (int type : new int[] {2, 127}) {
            faulty("TYPE " + type + ", three bytes", 12, 10, Texts.NAME, Texts.bytes(type, 0, 0));
            faulty("TYPE " + type + ", one byte less", 12, 10, Texts.NAME, Texts.bytes(type, 2, 0, 0, 9));
            faulty("TYPE " + type + ", all there", 14, 10, Texts.NAME, Texts.bytes(type, 2, 0, 0, 9, 9));
        }
        for (int[] told : new int[][] {{1, 0, 0}, {0, 1, 0}, {0, 0, 1}, {255, 255, 255}, {0, 0, 128}}) {
            faulty("more than there are", 12, 10, Texts.NAME, Texts.bytes(200), told);
        }
    }

    private static SnapHouse full(int type, int told, int[] sum, int b) {
        SnapHouse x = Due.tape(Texts.join(Texts.NAME, Texts.bytes(type), Texts.lowestFirst(told, 3), sum));
        x.fill(b, 20_000 - x.about(0));
        return x;
    }

    private static void aFullTapeAsAStream() {
        int[] bytes = Texts.same(6, 19_982);
        SnapHouse x = full(1, 19_986, Texts.sumOf(bytes), 6);
        Due.is("plain", x.unstream(), 19_982);
        Due.chunkIs(x, 1, 1, 10, 19_986, 19_982, 0);
        Due.is("its last", x.out(19_981), 6);
        Due.noByteOfOut(x, 19_982);
        x = full(1, 19_987, Texts.sumOf(bytes), 6);
        Due.is("plain, one more than there are", x.unstream(), -2);
        Due.faultIs("plain, one more than there are", x, 12, 10, 0, NONE);
        x = full(254, 19_986, new int[0], 6);
        Due.is("skipped", x.unstream(), 0);
        Due.chunkIs(x, 1, 254, 10, 19_986, 0, 0);
        x = full(254, 19_987, new int[0], 6);
        Due.is("skipped, one more than there are", x.unstream(), -2);
        Due.faultIs("skipped, one more than there are", x, 12, 10, 0, NONE);
        x = full(254, 19_985, new int[0], 255);
        Due.is("a TYPE at the very end", x.unstream(), -2);
        Due.faultIs("a TYPE at the very end", x, 12, 19_999, 0, NONE);
        x = full(254, 19_982, new int[0], 0);
        Due.is("a header at the very end, SHORT", x.unstream(), -2);
        Due.faultIs("a header at the very end, SHORT", x, 15, 19_996, 0, NONE);
    }

    private static void justTheName() {
        int[] name = Texts.of("sNaPpY");
        for (int n = 0; n < 6; n++) {
            faulty(n + " bytes", 13, 10, Texts.NAME, Texts.chunk(255, Texts.part(name, 0, n)));
            faulty("another byte " + n, 13, 10, Texts.NAME, Texts.chunk(255, Texts.with(name, n, name[n] ^ 32)));
        }
        faulty("seven bytes", 13, 10, Texts.NAME, Texts.chunk(255, Texts.join(name, Texts.bytes(0))));
        faulty("six and 256", 13, 10, Texts.NAME, Texts.chunk(255, Texts.join(name, Texts.same(0, 256))));
        opened("six", new int[0], Texts.NAME, Texts.chunk(255, name));
    }

    private static void typesThatAreTaken() {
        opened("1", Texts.of("abc"), Texts.NAME, ABC);
        faulty("2", 14, 10, Texts.NAME, Texts.with(ABC, 0, 2));
        faulty("127", 14, 10, Texts.NAME, Texts.with(ABC, 0, 127));
        opened("128", new int[0], Texts.NAME, Texts.with(ABC, 0, 128));
        opened("253", new int[0], Texts.NAME, Texts.with(ABC, 0, 253));
        opened("254", new int[0], Texts.NAME, Texts.with(ABC, 0, 254));
        faulty("255", 13, 10, Texts.NAME, Texts.with(ABC, 0, 255));
    }

    /** Each TYPE that can stand behind a name, twice, and a name between: only 128 to 254 are skipped ones. */
    private static void skippedTypes() {
        int[][] chunks = {Texts.pressedChunk(Texts.bytes(1, 0, 'q'), Texts.of("q")), ABC};
        for (int type = 0; type < 256; type++) {
            if (type < 2 || type > 127) {
                int[] chunk = type < 2 ? chunks[type] : type < 255 ? Texts.chunk(type, Texts.bytes(1)) : Texts.NAME;
                SnapHouse x = Due.tape(Texts.join(Texts.NAME, chunk, Texts.NAME, chunk));
                Due.holds("TYPE " + type + " is taken", x.unstream() >= 0);
                Due.is("CHUNKS with TYPE " + type, x.about(4), 4);
                Due.is("skipped ones of TYPE " + type, x.about(5), type >= 128 && type <= 254 ? 2 : 0);
            }
        }
    }

    private static void threeAndFourBytes() {
        int[] sum = Texts.sumOf(new int[0]);
        faulty("plain, three", 15, 10, Texts.NAME, Texts.chunk(1, Texts.part(sum, 0, 3)));
        opened("plain, four", new int[0], Texts.NAME, Texts.chunk(1, sum));
        faulty("pressed, three", 15, 10, Texts.NAME, Texts.chunk(0, Texts.part(sum, 0, 3)));
        UnstreamTest.faultyBlock("pressed, four", 16, 10, 1, 0, Texts.NAME, Texts.chunk(0, sum));
        opened("pressed, five", new int[0], Texts.NAME, Texts.chunk(0, Texts.join(sum, Texts.bytes(0))));
        // A fourth byte that is another CHUNK's isn't its own.
        faulty("plain, three, and more behind", 15, 10, Texts.NAME, Texts.chunk(1, Texts.part(sum, 0, 3)), ABC);
    }

    /** The text goes on behind the CHUNK, by bytes that would mend its BLOCK. */
    private static void inItsChunk(String what, int fault, int place, int[] block, int[] behind) {
        UnstreamTest.faultyBlock(what, 16, 10, fault, place, Texts.NAME, Texts.chunk(0, Texts.join(Texts.same(0, 4), block)), behind);
    }

    private static void aBlockInItsChunkAlone() {
        inItsChunk("the LENGTH", 1, 0, Texts.bytes(128), Texts.bytes(0));
        inItsChunk("a LITERAL", 3, 1, Texts.bytes(2, 4, 'a'), Texts.bytes('b'));
        inItsChunk("a size", 3, 1, Texts.bytes(1, 60 << 2), Texts.bytes(0, 'a'));
        inItsChunk("a near COPY", 3, 3, Texts.bytes(5, 0, 'a', 1), Texts.bytes(1));
        inItsChunk("a COPY", 3, 3, Texts.bytes(2, 0, 'a', 2, 1), Texts.bytes(0));
        inItsChunk("a far COPY", 3, 3, Texts.bytes(2, 0, 'a', 3, 1, 0, 0), Texts.bytes(0));
        inItsChunk("UNDER", 6, 3, Texts.bytes(2, 0, 'a'), Texts.bytes(0, 'b'));
        inItsChunk("2^32 - 1", 2, 0, Texts.length((1L << 32) - 1, 5), new int[0]);
        inItsChunk("2^32", 1, 0, Texts.length(1L << 32, 5), new int[0]);
        // abc stands ahead of it in OUT: one byte back is taken, two are more than its own.
        int[] right = {2, 0, 'z', 2, 1, 0};
        opened("one back", Texts.of("abczz"), Texts.NAME, ABC, Texts.pressedChunk(right, Texts.of("zz")));
        UnstreamTest.faultyBlock("two back", 16, 21, 4, 3, Texts.NAME, ABC, Texts.pressedChunk(Texts.with(right, 4, 2), Texts.of("zz")));
    }

    /** 20,000 times 3 (or 19,999), as a CHUNK of TYPE 0 behind the name. */
    private static SnapHouse large(int n) {
        SnapHouse x = new SnapHouse();
        x.fill(3, n);
        Due.is("stream(20,000)", x.stream(20_000), 10 + 8 + 944);
        x.take();
        return x;
    }

    private static void roomIs(String what, int n, int[] behind, int answer) {
        SnapHouse x = large(n);
        int place = x.about(0);
        Due.more(x, behind);
        Due.is(what, x.unstream(), answer);
        Due.faultIs(what, x, answer < 0 ? 17 : 0, answer < 0 ? place : NONE, 0, NONE);
        Due.is(what + ": about(1)", x.about(1), answer < 0 ? 944 + 18 : answer);
    }

    private static void roomOfOneBlock() {
        int[] none = Texts.plainChunk(new int[0]);
        int[] nonePressed = Texts.pressedChunk(Texts.bytes(0), new int[0]);
        int[] one = Texts.plainChunk(Texts.bytes(5));
        int[] onePressed = Texts.pressedChunk(Texts.bytes(1, 0, 5), Texts.bytes(5));
        int[] two = Texts.plainChunk(Texts.bytes(5, 6));
        int[] twoPressed = Texts.pressedChunk(Texts.bytes(2, 4, 5, 6), Texts.bytes(5, 6));
        roomIs("19,999", 19_999, new int[0], 19_999);
        roomIs("19,999 and 1", 19_999, one, 20_000);
        roomIs("19,999 and 1, pressed", 19_999, onePressed, 20_000);
        roomIs("19,999 and 2", 19_999, two, -2);
        roomIs("19,999 and 2, pressed", 19_999, twoPressed, -2);
        roomIs("20,000", 20_000, new int[0], 20_000);
        roomIs("20,000 and none", 20_000, Texts.join(none, nonePressed, Texts.chunk(200, Texts.same(1, 9)), Texts.NAME), 20_000);
        roomIs("20,000 and 1", 20_000, one, -2);
        roomIs("20,000 and 1, pressed", 20_000, onePressed, -2);
        SnapHouse x = large(20_000);
        int[] length = Texts.length(20_001, 3);
        for (int i = 0; i < 3; i++) {
            x.set(18 + i, length[i]);
        }
        Due.is("a LENGTH of 20,001", x.unstream(), -2);
        Due.faultIs("a LENGTH of 20,001", x, 16, 10, 2, 0);
    }

    /** Three PIECES of 20,000 in all, then the name, and a fourth of one byte. */
    private static void roomOfMany() {
        SnapHouse x = new SnapHouse();
        x.fill(3, 20_000);
        x.stream(7_000);
        x.take();
        Due.is("20,000 of three", x.unstream(), 20_000);
        Due.is("CHUNKS", x.about(4), 4);
        Due.chunkIs(x, 3, 0, x.chunk(3, 1), x.chunk(3, 2), 6_000, 14_000);
        Due.more(x, Texts.NAME);
        Due.is("and the name", x.unstream(), 20_000);
        int place = x.about(0);
        Due.more(x, Texts.plainChunk(Texts.bytes(9)));
        Due.is("and one more", x.unstream(), -2);
        Due.faultIs("and one more", x, 17, place, 0, NONE);
        Due.is("CHUNKS stay", x.about(4), 5);
        Due.is("OUT stays", x.about(1), 20_000);
    }

    /** Each has the fault and one that is greater. */
    private static void theLeastOfAChunk() {
        faulty("11 and 12", 11, 0, Texts.bytes(254, 1, 0, 0));
        faulty("11 and 14", 11, 0, Texts.chunk(100, new int[0]));
        faulty("11 and 15", 11, 0, Texts.chunk(1, new int[0]));
        faulty("11 and 18", 11, 0, Texts.with(ABC, 4, ABC[4] ^ 1));
        faulty("12 and 13", 12, 0, Texts.bytes(255, 6, 0, 0, 's', 'N', 'a', 'P', 'p'));
        faulty("12 and 14", 12, 10, Texts.NAME, Texts.bytes(2, 1, 0, 0));
        faulty("12 and 15", 12, 10, Texts.NAME, Texts.bytes(0, 3, 0, 0));
        faulty("12 and 16", 12, 10, Texts.NAME, Texts.bytes(0, 6, 0, 0, 0, 0, 0, 0, 9));
        faulty("12 and 18", 12, 10, Texts.NAME, Texts.bytes(1, 6, 0, 0, 0, 0, 0, 0, 9));
        UnstreamTest.faultyBlock("16 and 18", 16, 10, 5, 1, Texts.NAME, Texts.chunk(0, Texts.bytes(0, 0, 0, 0, 0, 0, 9)));
        SnapHouse x = large(20_000);
        int place = x.about(0);
        Due.more(x, Texts.chunk(0, Texts.bytes(0, 0, 0, 0, 2, 0, 9)));
        x.unstream();
        Due.faultIs("16 and 17", x, 16, place, 6, 3);
        x.cut(place);
        Due.more(x, Texts.chunk(1, Texts.bytes(0, 0, 0, 0, 9)));
        x.unstream();
        Due.faultIs("17 and 18", x, 17, place, 0, NONE);
        x.cut(place);
        Due.more(x, Texts.chunk(1, Texts.bytes(0, 0, 0, 0)));
        x.unstream();
        Due.faultIs("18, the room just enough", x, 18, place, 0, NONE);
        // Of two CHUNKS the first, though the second one's number is less.
        faulty("18 ahead of 12", 18, 10, Texts.NAME, Texts.with(ABC, 10, 'x'), Texts.bytes(1));
        faulty("15 ahead of 13", 15, 10, Texts.NAME, Texts.chunk(0, new int[0]), Texts.chunk(255, new int[0]));
        UnstreamTest.faultyBlock("16 ahead of 14", 16, 10, 1, 0, Texts.NAME, Texts.chunk(0, Texts.same(0, 4)), Texts.chunk(2, new int[0]));
    }

    /** The SUM that goes round in 32 bits, and its neighbours, one more and one less. */
    private static void sumsThatGoRound() {
        for (int sum : new int[] {0, 1, -1, Integer.MIN_VALUE, Integer.MAX_VALUE, 0xA282EAD8, 0xA282EAD7, 0x5D7D1528}) {
            int[] text = Texts.withMasked(sum);
            int[] block = Texts.join(Texts.bytes(4, 12), text);
            for (int off = -1; off <= 1; off++) {
                int[] told = Texts.lowestFirst(sum + off & 0xFFFFFFFFL, 4);
                int[] plain = Texts.chunk(1, Texts.join(told, text));
                int[] pressed = Texts.chunk(0, Texts.join(told, block));
                if (off == 0) {
                    opened("a plain SUM " + sum, text, Texts.NAME, plain);
                    opened("a pressed SUM " + sum, text, Texts.NAME, pressed);
                } else {
                    faulty("a plain SUM " + sum + " off by " + off, 18, 10, Texts.NAME, plain);
                    faulty("a pressed SUM " + sum + " off by " + off, 18, 10, Texts.NAME, pressed);
                }
            }
        }
        for (int bit = 0; bit < 32; bit++) {
            int[] other = Texts.with(ABC, 4 + bit / 8, ABC[4 + bit / 8] ^ 1 << bit % 8);
            faulty("bit " + bit + " of the SUM", 18, 10, Texts.NAME, other);
        }
        for (int bit = 0; bit < 24; bit++) {
            int[] other = Texts.with(ABC, 8 + bit / 8, ABC[8 + bit / 8] ^ 1 << bit % 8);
            faulty("bit " + bit + " of the bytes", 18, 10, Texts.NAME, other);
        }
    }

    /** The name and skipped ones of one byte: n in all. */
    private static void keptUpToAThousand() {
        for (int n : new int[] {998, 999, 1_000, 1_001, 1_002}) {
            SnapHouse x = Due.tape(Texts.join(Texts.NAME, Texts.chunk(150, Texts.bytes(8))));
            x.again(10, 5 * (n - 2));
            Due.is(n + ": unstream()", x.unstream(), 0);
            Due.is(n + ": all of them", x.about(4), n);
            Due.is(n + ": the skipped ones", x.about(5), n - 1);
            for (int i : new int[] {0, 997, 998, 999, 1_000, 1_001, n - 1, n}) {
                if (i >= n || i >= 1_000) {
                    Due.noChunk(x, i);
                } else if (i > 0) {
                    Due.chunkIs(x, i, 150, 10 + 5 * (i - 1), 1, 0, 0);
                } else {
                    Due.chunkIs(x, 0, 255, 0, 6, 0, 0);
                }
            }
            Due.noChunk(x, -1);
            Due.load(x, Texts.NAME);
            x.unstream();
            Due.is("fewer behind more", x.about(4), 1);
            Due.is("none of them skipped", x.about(5), 0);
            Due.noChunk(x, 1);
            Due.noChunk(x, 997);
        }
    }

    /** 4,996 skipped ones of no byte, and a last one that fills the TAPE. */
    private static void asManyAsCanBe() {
        SnapHouse x = Due.tape(Texts.join(Texts.NAME, Texts.chunk(128, new int[0])));
        x.again(10, 4 * 4_995);
        for (int b : new int[] {253, 2, 0, 0, 253, 253}) {
            x.fill(b, 1);
        }
        Due.is("a full TAPE", x.about(0), 20_000);
        Due.is("unstream()", x.unstream(), 0);
        Due.is("all of them", x.about(4), 4_998);
        Due.is("the skipped ones", x.about(5), 4_997);
        Due.chunkIs(x, 999, 128, 10 + 4 * 998, 0, 0, 0);
        Due.noChunk(x, 1_000);
        x.cut(19_999);
        Due.is("one byte less", x.unstream(), -2);
        Due.faultIs("one byte less", x, 12, 19_994, 0, NONE);
        Due.is("all of them stay", x.about(4), 4_998);
    }

    /** Each tells of itself alone, of open() and unstream() by turns. */
    private static void faultsOneBehindTheOther() {
        SnapHouse x = Due.tape(Texts.join(Texts.NAME, Texts.chunk(0, Texts.bytes(0, 0, 0, 0, 5, 0, 'a', 1, 0))));
        x.unstream();
        Due.faultIs("16", x, 16, 10, 4, 3);
        Due.load(x, Texts.bytes(0));
        x.open();
        Due.faultIs("none behind a 16", x, 0, NONE, 0, NONE);
        x.unstream();
        Due.faultIs("11 behind none", x, 11, 0, 0, NONE);
        Due.load(x, Texts.join(Texts.NAME, ABC, Texts.chunk(0, Texts.bytes(0, 0, 0, 0, 5))));
        x.unstream();
        Due.faultIs("16 behind an 11", x, 16, 21, 6, 1);
        Due.load(x, Texts.join(Texts.NAME, Texts.chunk(9, new int[0])));
        x.unstream();
        Due.faultIs("14 behind a 16", x, 14, 10, 0, NONE);
        Due.load(x, Texts.NAME);
        x.unstream();
        Due.faultIs("none behind a 14", x, 0, NONE, 0, NONE);
        for (int what : new int[] {-1, 4, 5, Integer.MIN_VALUE, Integer.MAX_VALUE}) {
            Due.is("fault(" + what + ")", x.fault(what), NONE);
        }
    }
}
