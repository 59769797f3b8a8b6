import java.util.NoSuchElementException;

/** What the tests share: comparing answers, and bringing bytes to an object and back. */
final class Due {
    private static int wrong = 0;
    private static int looked = 0;

    private Due() {
    }

    static void is(String what, long got, long want) {
        looked++;
        if (got != want) {
            wrong++;
            System.out.println(what + " answered " + got + ", due is " + want);
        }
    }

    static void holds(String what, boolean so) {
        is(what, so ? 1 : 0, 1);
    }

    static void noByteOfOut(SnapHouse x, int i) {
        boolean thrown = false;
        try {
            x.out(i);
        } catch (NoSuchElementException e) {
            thrown = true;
        }
        holds("out(" + i + ") throws NoSuchElementException", thrown);
    }

    /** A new object with these bytes on its TAPE. */
    static SnapHouse tape(int... bytes) {
        SnapHouse x = new SnapHouse();
        load(x, bytes);
        return x;
    }

    /** Twenty bytes a call, so that an object's 512 calls last. */
    static void load(SnapHouse x, int... bytes) {
        x.cut(0);
        more(x, bytes);
    }

    /** These come behind what is on the TAPE (which has twenty bytes of room beyond them). */
    static void more(SnapHouse x, int... bytes) {
        int want = x.about(0) + bytes.length;
        for (int from = 0; from < bytes.length; from += 20) {
            x.feed(four(bytes, from), four(bytes, from + 4), four(bytes, from + 8),
                four(bytes, from + 12), four(bytes, from + 16));
        }
        is("the TAPE is loaded", x.cut(want), want);
    }

    /** A new object whose TAPE is full of Texts.threes: 1,000 calls of feed would be more than an object is used for. */
    static SnapHouse fullOfThrees() {
        SnapHouse x = tape(Texts.join(Texts.length(19_992, 3), Texts.bytes(61 << 2, 767 & 255, 767 >> 8), Texts.threes(768),
            Texts.bytes(2 << 2 | 2, 762 & 255, 762 >> 8, 2 << 2 | 2, 768 & 255, 768 >> 8)));
        x.again(774, 19_224 - 6);
        is("threes opened", x.open(), 19_992);
        is("threes taken", x.take(), 19_992);
        x.again(19_992 - 762, 3);
        x.again(19_995 - 768, 3);
        is("a full TAPE", x.again(19_998 - 762, 2), 20_000);
        is("full of threes", x.sum(0, 20_000, false), Texts.crc(Texts.threes(20_000)));
        return x;
    }

    private static int four(int[] bytes, int from) {
        int number = 0;
        for (int k = from; k < from + 4; k++) {
            number = number << 8 | (k < bytes.length ? bytes[k] : 0);
        }
        return number;
    }

    static void tapeIs(String what, SnapHouse x, int... want) {
        is(what + ": about(0)", x.about(0), want.length);
        for (int i = 0; i < want.length; i++) {
            is(what + ": tape(" + i + ")", x.tape(i), want[i]);
        }
        is(what + ": tape behind the end", x.tape(want.length), SnapHouse.NONE);
    }

    static void outIs(String what, SnapHouse x, int... want) {
        is(what + ": about(1)", x.about(1), want.length);
        if (x.about(1) != want.length) {
            return;
        }
        for (int i = 0; i < want.length; i++) {
            is(what + ": out(" + i + ")", x.out(i), want[i]);
        }
        noByteOfOut(x, want.length);
    }

    static void faultIs(String what, SnapHouse x, int fault, int place, int inBlock, int placeInBlock) {
        is(what + ": fault(0)", x.fault(0), fault);
        is(what + ": fault(1)", x.fault(1), place);
        is(what + ": fault(2)", x.fault(2), inBlock);
        is(what + ": fault(3)", x.fault(3), placeInBlock);
        is(what + ": fault(4)", x.fault(4), SnapHouse.NONE);
        is(what + ": fault(-1)", x.fault(-1), SnapHouse.NONE);
    }

    static void elementIs(SnapHouse x, int i, int... want) {
        for (int what = 0; what < 5; what++) {
            is("element(" + i + ", " + what + ")", x.element(i, what), want[what]);
        }
        is("element(" + i + ", 5)", x.element(i, 5), SnapHouse.NONE);
        is("element(" + i + ", -1)", x.element(i, -1), SnapHouse.NONE);
    }

    static void noElement(SnapHouse x, int i) {
        for (int what = 0; what < 5; what++) {
            is("element(" + i + ", " + what + ")", x.element(i, what), SnapHouse.NONE);
        }
    }

    static void chunkIs(SnapHouse x, int i, int... want) {
        for (int what = 0; what < 5; what++) {
            is("chunk(" + i + ", " + what + ")", x.chunk(i, what), want[what]);
        }
        is("chunk(" + i + ", 5)", x.chunk(i, 5), SnapHouse.NONE);
        is("chunk(" + i + ", -1)", x.chunk(i, -1), SnapHouse.NONE);
    }

    static void noChunk(SnapHouse x, int i) {
        for (int what = 0; what < 5; what++) {
            is("chunk(" + i + ", " + what + ")", x.chunk(i, what), SnapHouse.NONE);
        }
    }

    static void end(String test) {
        System.out.println(test + ": " + looked + " answers, " + wrong + " not as due");
        if (wrong != 0) {
            System.exit(1);
        }
    }
}
