import java.util.LinkedHashMap;
import java.util.Map;
import java.util.function.Supplier;

/** Objects with a past each, on which the tests make one call more: empty and full ones, and some between. */
final class Pasts {
    private static final int[] ABC = Texts.plainChunk(Texts.of("abc"));

    private Pasts() {
    }

    static Map<String, Supplier<SnapHouse>> all() {
        Map<String, Supplier<SnapHouse>> all = new LinkedHashMap<>();
        all.put("a new object", SnapHouse::new);
        all.put("a short past", Pasts::lived);
        all.put("an empty TAPE", Pasts::emptyTape);
        all.put("a full TAPE", Pasts::fullTape);
        all.put("an empty OUT", Pasts::emptyOut);
        all.put("a full OUT", Pasts::fullOut);
        all.put("both full", Pasts::bothFull);
        all.put("more than are kept", Pasts::moreThanAreKept);
        return all;
    }

    /** Two ELEMENTS, three CHUNKS, abc in OUT, and a fault in a CHUNK's BLOCK. */
    private static SnapHouse lived() {
        SnapHouse x = Due.tape(6, 4, 'a', 'b', 1, 2);
        x.open();
        Due.load(x, Texts.join(Texts.NAME, ABC, Texts.chunk(130, new int[0])));
        x.unstream();
        Due.load(x, Texts.join(Texts.NAME, Texts.chunk(0, Texts.bytes(0, 0, 0, 0, 9, 1, 0))));
        x.unstream();
        return x;
    }

    private static SnapHouse emptyTape() {
        SnapHouse x = lived();
        x.cut(0);
        return x;
    }

    private static SnapHouse fullTape() {
        SnapHouse x = lived();
        x.fill(9, 20_000 - x.about(0));
        return x;
    }

    private static SnapHouse emptyOut() {
        SnapHouse x = lived();
        Due.load(x, Texts.NAME);
        x.unstream();
        Due.load(x, 5, 4, 'x');
        x.open();
        return x;
    }

    private static SnapHouse fullOut() {
        SnapHouse x = lived();
        x.cut(0);
        x.fill(7, 6_542);
        x.stream(3);
        return x;
    }

    private static SnapHouse bothFull() {
        SnapHouse x = fullOut();
        x.again(0, 20_000 - 6_542);
        return x;
    }

    private static SnapHouse moreThanAreKept() {
        SnapHouse x = Due.tape(1_200 & 127 | 128, 1_200 >> 7, 0, 'e');
        x.again(2, 2 * 1_199);
        x.open();
        Due.load(x, Texts.join(Texts.NAME, Texts.chunk(200, Texts.bytes(5))));
        x.again(10, 5 * 1_100);
        Due.more(x, ABC);
        x.unstream();
        x.fill(1, 1);
        x.unstream();
        return x;
    }
}
