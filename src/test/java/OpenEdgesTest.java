/** Term II and promises 10, 13 and 14 at their edges: the last BLOCK without a fault, and the first with it. */
public final class OpenEdgesTest {
    private static final int NONE = SnapHouse.NONE;
    private static final int[] ABCD = {3 << 2, 'a', 'b', 'c', 'd'};

    public static void main(String[] args) {
        lengthsOfEveryManyBytes();
        lengthsThatDontEnd();
        elementsThatAreAllThere();
        toldSizesBeyondTheTape();
        backUpToTheBeginning();
        backOfNumbersThatGoRound();
        theFarthestBack();
        moreThanTheLengthAtItsMost();
        aFullTapeAsABlock();
        theLeastOfAnElement();
        roomAheadOfElements();
        keptUpToAThousand();
        faultsOneBehindTheOther();
        Due.end("OpenEdgesTest");
    }

    private static void faulty(String what, int fault, int place, int[]... parts) {
        OpenTest.faulty(what, fault, place, Texts.join(parts));
    }

    private static void lengthsOfEveryManyBytes() {
        for (int n = 1; n <= 5; n++) {
            OpenTest.opened("0 in " + n, Texts.length(0, n), new int[0]);
            OpenTest.opened("1 in " + n, Texts.join(Texts.length(1, n), Texts.bytes(0, 9)), Texts.bytes(9));
            faulty("1 in " + n + ", and none", 6, n, Texts.length(1, n));
            faulty("127 in " + n, 6, n, Texts.length(127, n));
        }
        for (int n = 3; n <= 5; n++) {
            faulty("20,000 in " + n, 6, n, Texts.length(20_000, n));
            faulty("20,001 in " + n, 2, 0, Texts.length(20_001, n));
            faulty("the most in " + n, 2, 0, Texts.length(Math.min((1L << 7 * n) - 1, (1L << 32) - 1), n));
        }
        faulty("16,383", 6, 2, Texts.length(16_383, 2));
        faulty("16,384", 6, 3, Texts.length(16_384, 3));
        faulty("2^28", 2, 0, Texts.length(1L << 28, 5));
        faulty("2^31 - 1", 2, 0, Texts.length((1L << 31) - 1, 5));
        faulty("2^31", 2, 0, Texts.length(1L << 31, 5));
        faulty("2^32 - 1", 2, 0, Texts.length((1L << 32) - 1, 5));
        faulty("2^32", 1, 0, Texts.length(1L << 32, 5));
        faulty("2^32 + 1, which an int would take for 1", 1, 0, Texts.length((1L << 32) + 1, 5), Texts.bytes(0, 9));
        faulty("2^32 + 20,001", 1, 0, Texts.length((1L << 32) + 20_001, 5));
        faulty("2^33", 1, 0, Texts.length(1L << 33, 5));
        faulty("2^34", 1, 0, Texts.length(1L << 34, 5));
        faulty("2^35 - 1", 1, 0, Texts.length((1L << 35) - 1, 5));
    }

    private static void lengthsThatDontEnd() {
        for (int n = 0; n <= 7; n++) {
            faulty(n + " times 128", 1, 0, Texts.same(128, n));
            faulty(n + " times 255", 1, 0, Texts.same(255, n));
        }
        // Four that go on and one that ends are a LENGTH, five that go on aren't, whatever comes behind.
        OpenTest.opened("four go on", Texts.join(Texts.same(128, 4), Texts.bytes(0)), new int[0]);
        faulty("five go on", 1, 0, Texts.same(128, 5), Texts.bytes(0));
        faulty("six go on", 1, 0, Texts.same(128, 6), Texts.bytes(0));
    }

    /** Behind abcd: this ELEMENT of n bytes, just there; cut at each of its bytes; and the LENGTH one more and one less. */
    private static void element(String what, int sort, int n, int back, int[]... parts) {
        int[] element = Texts.join(parts);
        int[] length = Texts.length(4 + n, 2);
        int[] all = Texts.join(length, ABCD, element);
        SnapHouse x = Due.tape(all);
        Due.is(what + ": open()", x.open(), 4 + n);
        Due.faultIs(what, x, 0, NONE, 0, NONE);
        Due.elementIs(x, 0, 0, 2, 4, 0, 0);
        Due.elementIs(x, 1, sort, 7, n, back, 4);
        Due.noElement(x, 2);
        Due.is(what + ": ELEMENTS", x.about(2), 2);
        Due.is(what + ": LITERALS", x.about(3), sort == 0 ? 2 : 1);
        faulty(what + ", not there at all", 6, 7, length, ABCD);
        int[] cuts = element.length < 10 ? new int[] {1, 2, 3, 4, 5, 6, 7, 8} : new int[] {1, 2, 3, 4, 5, element.length - 1};
        for (int k : cuts) {
            if (k < element.length) {
                faulty(what + ", cut behind " + k, 3, 7, Texts.part(all, 0, 7 + k));
            }
        }
        faulty(what + ", the LENGTH one less", 5, 7, Texts.length(3 + n, 2), ABCD, element);
        faulty(what + ", the LENGTH one more", 6, all.length, Texts.length(5 + n, 2), ABCD, element);
    }

    private static void elementsThatAreAllThere() {
        element("a LITERAL of 1", 0, 1, 0, Texts.bytes(0, 'x'));
        element("a LITERAL of 59", 0, 59, 0, Texts.bytes(58 << 2), Texts.same('x', 59));
        element("a LITERAL of 60", 0, 60, 0, Texts.bytes(59 << 2), Texts.same('x', 60));
        element("1, told by one byte", 0, 1, 0, Texts.bytes(60 << 2, 0), Texts.same('x', 1));
        element("61, told by one byte", 0, 61, 0, Texts.bytes(60 << 2, 60), Texts.same('x', 61));
        element("256, told by one byte", 0, 256, 0, Texts.bytes(60 << 2, 255), Texts.same('x', 256));
        element("1, told by two", 0, 1, 0, Texts.bytes(61 << 2, 0, 0), Texts.same('x', 1));
        element("257, told by two", 0, 257, 0, Texts.bytes(61 << 2, 0, 1), Texts.same('x', 257));
        element("1, told by three", 0, 1, 0, Texts.bytes(62 << 2, 0, 0, 0), Texts.same('x', 1));
        element("258, told by three", 0, 258, 0, Texts.bytes(62 << 2, 1, 1, 0), Texts.same('x', 258));
        element("1, told by four", 0, 1, 0, Texts.bytes(63 << 2, 0, 0, 0, 0), Texts.same('x', 1));
        element("259, told by four", 0, 259, 0, Texts.bytes(63 << 2, 2, 1, 0, 0), Texts.same('x', 259));
        for (int back : new int[] {1, 4}) {
            element("a near COPY of 4", 1, 4, back, Texts.bytes(1, back));
            element("a near COPY of 11", 1, 11, back, Texts.bytes(7 << 2 | 1, back));
            element("a COPY of 1", 2, 1, back, Texts.bytes(2, back, 0));
            element("a COPY of 64", 2, 64, back, Texts.bytes(63 << 2 | 2, back, 0));
            element("a far COPY of 1", 3, 1, back, Texts.bytes(3, back, 0, 0, 0));
            element("a far COPY of 64", 3, 64, back, Texts.bytes(63 << 2 | 3, back, 0, 0, 0));
        }
    }

    /** Sizes of which an int, or a sum of ints, would lose the highest bits. */
    private static void toldSizesBeyondTheTape() {
        long[] sizes = {20_000, 65_535, 65_536, 65_537, (1 << 24) - 1, 1 << 24, (1L << 31) - 8, (1L << 31) - 1, 1L << 31,
            (1L << 31) + 1, (1L << 32) - 2, (1L << 32) - 1, 1L << 32};
        for (long size : sizes) {
            for (int more = 2; more <= 4; more++) {
                if (size - 1 < 1L << 8 * more) {
                    faulty(size + ", told by " + more, 3, 7, Texts.length(5, 2), ABCD, Texts.bytes(59 + more << 2),
                        Texts.lowestFirst(size - 1, more), Texts.bytes('x', 'y'));
                }
            }
        }
    }

    /** A COPY of sort 1, 2 or 3 behind a LITERAL of c bytes. */
    private static void back(int c, int sort, int back) {
        int[] literal = Texts.counting(c);
        int[] length = Texts.length(c + 4, 3);
        int[] tag = Texts.bytes(61 << 2, c - 1 & 255, c - 1 >> 8);
        int[] copy = sort == 1 ? Texts.bytes(back >> 8 << 5 | 1, back & 255)
            : Texts.join(Texts.bytes(3 << 2 | sort), Texts.lowestFirst(back, sort == 2 ? 2 : 4));
        SnapHouse x = Due.tape(Texts.join(length, tag, literal, copy));
        String what = "sort " + sort + ", " + back + " back of " + c;
        boolean fine = back >= 1 && back <= c;
        Due.is(what, x.open(), fine ? c + 4 : -2);
        if (!fine) {
            Due.faultIs(what, x, 4, 6 + c, 0, NONE);
            Due.is(what + ": OUT stays", x.about(1), 0);
            return;
        }
        Due.elementIs(x, 1, sort, 6 + c, 4, back, c);
        for (int k = 0; k < 4; k++) {
            Due.is(what + ": out(" + (c + k) + ")", x.out(c + k), literal[c - back + k % back]);
        }
    }

    private static void backUpToTheBeginning() {
        for (int c : new int[] {1, 2, 3, 4, 5, 254, 255, 256, 257, 2_045, 2_046, 2_047, 2_048, 4_096}) {
            for (int sort = 1; sort <= 3; sort++) {
                for (int back : new int[] {0, 1, 2, c - 1, c, c + 1, c + 256}) {
                    if (sort != 1 || back < 2_048) {
                        back(c, sort, back);
                    }
                }
            }
        }
    }

    /** None of these is within four bytes, though its lowest bits would be. */
    private static void backOfNumbersThatGoRound() {
        long[] wrong = {5, 256, 257, 260, 65_535};
        for (long back : wrong) {
            faulty("a COPY from " + back, 4, 7, Texts.length(5, 2), ABCD, Texts.bytes(2), Texts.lowestFirst(back, 2));
        }
        long[] far = {5, 256, 257, 65_535, 65_536, 65_537, (1 << 24) + 1, (1L << 31) - 1, 1L << 31, (1L << 31) + 1,
            (1L << 32) - 4, (1L << 32) - 1};
        for (long back : far) {
            faulty("a far COPY from " + back, 4, 7, Texts.length(5, 2), ABCD, Texts.bytes(3), Texts.lowestFirst(back, 4));
        }
        for (int back : new int[] {5, 256, 257, 260, 2_047}) {
            faulty("a near COPY from " + back, 4, 7, Texts.length(8, 2), ABCD, Texts.bytes(back >> 8 << 5 | 1, back & 255));
        }
    }

    /** 19,936 bytes, the first of them 9, pressed; a COPY of 64 makes them 20,000. */
    private static SnapHouse nearlyFull() {
        SnapHouse x = new SnapHouse();
        x.fill(1, 19_936);
        x.set(0, 9);
        x.press();
        x.take();
        int[] length = Texts.length(20_000, 3);
        for (int i = 0; i < 3; i++) {
            x.set(i, length[i]);
        }
        return x;
    }

    private static void theFarthestBack() {
        for (int sort = 2; sort <= 3; sort++) {
            for (int back : new int[] {19_935, 19_936, 19_937, 0}) {
                SnapHouse x = nearlyFull();
                int tag = x.about(0);
                Due.more(x, Texts.join(Texts.bytes(63 << 2 | sort), Texts.lowestFirst(back, sort == 2 ? 2 : 4)));
                String what = "sort " + sort + ", " + back + " back";
                boolean fine = back == 19_935 || back == 19_936;
                Due.is(what, x.open(), fine ? 20_000 : -2);
                Due.faultIs(what, x, fine ? 0 : 4, fine ? NONE : tag, 0, NONE);
                if (fine) {
                    Due.is(what + ": its first", x.out(19_936), back == 19_936 ? 9 : 1);
                    Due.is(what + ": its last", x.out(19_999), 1);
                    Due.noByteOfOut(x, 20_000);
                }
            }
        }
    }

    private static void moreThanTheLengthAtItsMost() {
        SnapHouse x = nearlyFull();
        Due.is("64 too few", x.open(), -2);
        Due.faultIs("64 too few", x, 6, x.about(0), 0, NONE);
        int tag = x.about(0);
        Due.more(x, 62 << 2 | 2, 1, 0);
        Due.is("one too few", x.open(), -2);
        Due.faultIs("one too few", x, 6, tag + 3, 0, NONE);
        Due.more(x, 0, 'z');
        Due.is("20,000", x.open(), 20_000);
        Due.is("the last", x.out(19_999), 'z');
        int[][] overs = {{0, 'z'}, {1, 1}, {2, 1, 0}, {3, 1, 0, 0, 0}};
        for (int[] over : overs) {
            Due.more(x, over);
            Due.is("more than 20,000", x.open(), -2);
            Due.faultIs("more than 20,000", x, 5, tag + 5, 0, NONE);
            Due.is("OUT stays", x.about(1), 20_000);
            x.cut(tag + 5);
        }
        x.cut(tag);
        Due.more(x, 63 << 2 | 2, 1, 0, 1, 1);
        Due.is("a COPY behind all", x.open(), -2);
        Due.faultIs("a COPY behind all", x, 5, tag + 3, 0, NONE);
    }

    /** LENGTH, a LITERAL, and bytes up to the 20,000th. */
    private static void full(String what, int length, int told, int more, int answer, int fault, int place) {
        SnapHouse x = Due.tape(Texts.join(Texts.length(length, 3), Texts.bytes(59 + more << 2), Texts.lowestFirst(told - 1, more)));
        x.fill(5, 20_000 - x.about(0));
        Due.is(what + ": open()", x.open(), answer);
        Due.faultIs(what, x, fault, place, 0, NONE);
        Due.is(what + ": about(0)", x.about(0), 20_000);
        Due.is(what + ": about(1)", x.about(1), Math.max(answer, 0));
        Due.is(what + ": about(2)", x.about(2), answer < 0 ? 0 : 1);
    }

    private static void aFullTapeAsABlock() {
        for (int more = 2; more <= 4; more++) {
            int all = 20_000 - 4 - more;
            full("just all, told by " + more, all, all, more, all, 0, NONE);
            full("one more than there are, told by " + more, all + 1, all + 1, more, -2, 3, 3);
            full("one more than the LENGTH, told by " + more, all - 1, all, more, -2, 5, 3);
            full("one less than the LENGTH, told by " + more, all + 1, all, more, -2, 6, 20_000);
        }
        // The TAG of a COPY is the 20,000th byte: no byte is behind it.
        int[] begin = Texts.join(Texts.length(19_997, 3), Texts.bytes(61 << 2, 19_992 & 255, 19_992 >> 8));
        SnapHouse x = Due.tape(begin);
        x.fill(5, 19_993);
        x.fill(1, 1);
        Due.is("a TAG at the very end", x.open(), -2);
        Due.faultIs("a TAG at the very end", x, 3, 19_999, 0, NONE);
    }

    private static void theLeastOfAnElement() {
        // Each has the fault and all greater ones; the LENGTH 4 leaves no room for more than abcd.
        faulty("a LITERAL: 3, 5", 3, 6, Texts.bytes(4), ABCD, Texts.bytes(4, 'x'));
        faulty("a LITERAL: 5", 5, 6, Texts.bytes(4), ABCD, Texts.bytes(0, 'x'));
        int[][] copies = {{1}, {2, 9}, {3, 9, 9, 9}};
        for (int[] copy : copies) {
            faulty("sort " + copy[0] + ": 3, 4, 5", 3, 6, Texts.bytes(4), ABCD, copy);
            faulty("sort " + copy[0] + ": 4, 5", 4, 6, Texts.bytes(4), ABCD, copy, Texts.bytes(9));
            faulty("sort " + copy[0] + ": 4", 4, 6, Texts.bytes(100), ABCD, copy, Texts.bytes(9));
            int[] right = Texts.join(Texts.bytes(copy[0], 4), new int[copy[0] == 3 ? 3 : copy[0] - 1]);
            faulty("sort " + copy[0] + ": 5", 5, 6, Texts.bytes(4), ABCD, right);
            faulty("sort " + copy[0] + ": 5, ahead of a 3", 5, 6, Texts.bytes(4), ABCD, right, Texts.bytes(1));
            faulty("sort " + copy[0] + ": 4, ahead of a 3", 4, 6, Texts.bytes(100), ABCD, copy, Texts.bytes(9), Texts.bytes(1));
            faulty("sort " + copy[0] + ": 6 behind a right one", 6, 6 + right.length, Texts.bytes(100), ABCD, right);
            faulty("sort " + copy[0] + ": 3 ahead of a 6", 3, 6, Texts.bytes(100), ABCD, copy);
        }
    }

    private static void roomAheadOfElements() {
        faulty("1 and 3", 1, 0, Texts.length(1L << 32, 5), Texts.bytes(1));
        faulty("2 and 3", 2, 0, Texts.length(20_001, 3), Texts.bytes(1));
        faulty("2 and 4", 2, 0, Texts.length(20_001, 3), Texts.bytes(1, 1));
        faulty("20,000 and 3", 3, 3, Texts.length(20_000, 3), Texts.bytes(1));
        faulty("20,000 and 4", 4, 3, Texts.length(20_000, 3), Texts.bytes(1, 1));
    }

    /** So many LITERALS of one byte. */
    private static void keptUpToAThousand() {
        for (int n : new int[] {998, 999, 1_000, 1_001, 1_002, 9_999}) {
            SnapHouse x = Due.tape(n & 127 | 128, n >> 7, 0, 'e');
            x.again(2, 2 * (n - 1));
            Due.is(n + ": open()", x.open(), n);
            Due.is(n + ": all of them", x.about(2), n);
            Due.is(n + ": the LITERALS", x.about(3), n);
            for (int i : new int[] {0, 997, 998, 999, 1_000, 1_001, n - 1, n}) {
                if (i < n && i < 1_000) {
                    Due.elementIs(x, i, 0, 2 + 2 * i, 1, 0, i);
                } else {
                    Due.noElement(x, i);
                }
            }
            Due.noElement(x, -1);
        }
        SnapHouse x = Due.tape(1_002 & 127 | 128, 1_002 >> 7, 0, 'e');
        x.again(2, 2 * 1_001);
        x.open();
        Due.load(x, 2, 4, 'a', 'b');
        x.open();
        Due.is("fewer behind more", x.about(2), 1);
        Due.elementIs(x, 0, 0, 1, 2, 0, 0);
        Due.noElement(x, 1);
        Due.noElement(x, 999);
    }

    /** Each tells of itself alone. */
    private static void faultsOneBehindTheOther() {
        SnapHouse x = new SnapHouse();
        int[][] blocks = {{0}, {128}, {0}, {161, 156, 1}, {1, 0, 'a'}, {1, 0}, {2, 0, 'a', 1, 0}, {0, 0, 'a'}, {7}, {0}};
        int[][] faults = {{0, NONE}, {1, 0}, {0, NONE}, {2, 0}, {0, NONE}, {3, 1}, {4, 3}, {5, 1}, {6, 1}, {0, NONE}};
        for (int k = 0; k < blocks.length; k++) {
            Due.load(x, blocks[k]);
            x.open();
            Due.faultIs("BLOCK " + k, x, faults[k][0], faults[k][1], 0, NONE);
        }
    }
}
