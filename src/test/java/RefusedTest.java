import java.util.Map;
import java.util.function.Supplier;
import java.util.function.ToIntFunction;

/**
 * Every call that answers NONE, -2, a 0 for bytes that aren't there, or throws: behind it TAPE, OUT and what fault,
 * element, chunk and about tell are those of an object of the same past without that call.
 */
public final class RefusedTest {
    private static final int NONE = SnapHouse.NONE;
    private static final int MOST = Integer.MAX_VALUE;
    private static final int LEAST = Integer.MIN_VALUE;
    private static final int[] ABC = Texts.plainChunk(Texts.of("abc"));
    private static final Map<String, Supplier<SnapHouse>> PASTS = Pasts.all();

    private final String past;
    private final Supplier<SnapHouse> make;
    private final int tape;
    private final int out;
    private final int elements;
    private final int chunks;
    private final Picture before;

    private RefusedTest(String past, Supplier<SnapHouse> make) {
        this.past = past;
        this.make = make;
        SnapHouse x = make.get();
        tape = x.about(0);
        out = x.about(1);
        elements = Math.min(x.about(2), 1_000);
        chunks = Math.min(x.about(4), 1_000);
        before = Picture.of(x);
    }

    public static void main(String[] args) {
        thePastsAreWhatTheyAreCalled();
        for (String past : PASTS.keySet()) {
            RefusedTest test = new RefusedTest(past, PASTS.get(past));
            test.comingBytes();
            test.changes();
            test.looks();
            test.streams();
            test.faultyBlocks();
            test.faultyStreams();
        }
        Due.end("RefusedTest");
    }

    private static void pastIs(String past, int... want) {
        SnapHouse x = PASTS.get(past).get();
        for (int what = 0; what < 6; what++) {
            Due.is(past + ": about(" + what + ")", x.about(what), want[what]);
        }
        for (int what = 0; what < 4; what++) {
            Due.is(past + ": fault(" + what + ")", x.fault(what), want[6 + what]);
        }
    }

    private static void thePastsAreWhatTheyAreCalled() {
        pastIs("a new object", 0, 0, 0, 0, 0, 0, NONE, NONE, NONE, NONE);
        pastIs("a short past", 21, 3, 2, 1, 3, 1, 16, 10, 4, 1);
        pastIs("an empty TAPE", 0, 3, 2, 1, 3, 1, 16, 10, 4, 1);
        pastIs("a full TAPE", 20_000, 3, 2, 1, 3, 1, 16, 10, 4, 1);
        pastIs("an empty OUT", 3, 0, 2, 1, 1, 0, 3, 1, 0, NONE);
        pastIs("a full OUT", 6_542, 24_000, 2, 1, 3, 1, 16, 10, 4, 1);
        pastIs("both full", 20_000, 24_000, 2, 1, 3, 1, 16, 10, 4, 1);
        pastIs("more than are kept", 5_527, 3, 1_200, 1_200, 1_103, 1_101, 12, 5_526, 0, NONE);
    }

    private void refused(String call, int want, ToIntFunction<SnapHouse> made) {
        SnapHouse x = make.get();
        String what = past + ": " + call;
        Due.is(what, made.applyAsInt(x), want);
        Picture.of(x).isThatOf(what, before);
    }

    private void fill(int b, int n) {
        refused("fill(" + b + ", " + n + ")", NONE, x -> x.fill(b, n));
    }

    private void again(int i, int n) {
        refused("again(" + i + ", " + n + ")", NONE, x -> x.again(i, n));
    }

    private void comingBytes() {
        if (tape > 19_980) {
            refused("feed()", NONE, x -> x.feed(1, 2, 3, 4, 5));
        }
        for (int b : new int[] {-1, 256, MOST, LEAST}) {
            fill(b, 0);
            fill(b, 1);
        }
        for (int n : new int[] {-1, LEAST, 20_001 - tape, 20_001, MOST}) {
            fill(0, n);
            fill(255, n);
            again(0, n);
            again(tape - 1, n);
        }
        for (int i : new int[] {-1, LEAST, tape, tape + 1, MOST}) {
            again(i, 0);
            again(i, 1);
        }
    }

    private void changes() {
        for (int n : new int[] {-1, LEAST, tape + 1, MOST}) {
            refused("cut(" + n + ")", NONE, x -> x.cut(n));
        }
        for (int i : new int[] {-1, LEAST, tape, MOST}) {
            refused("set(" + i + ", 0)", NONE, x -> x.set(i, 0));
            refused("set(" + i + ", 255)", NONE, x -> x.set(i, 255));
        }
        for (int b : new int[] {-1, LEAST, 256, MOST}) {
            refused("set(0, " + b + ")", NONE, x -> x.set(0, b));
            refused("set(" + (tape - 1) + ", " + b + ")", NONE, x -> x.set(tape - 1, b));
        }
        if (out > 20_000) {
            refused("take()", NONE, SnapHouse::take);
        }
    }

    private void looks() {
        for (int i : new int[] {-1, LEAST, tape, MOST}) {
            refused("tape(" + i + ")", NONE, x -> x.tape(i));
            refused("sum(" + i + ", 1, false)", 0, x -> x.sum(i, 1, false));
            refused("sum(" + i + ", 1, true)", 0, x -> x.sum(i, 1, true));
            refused("sum(0, more than there are, true)", 0, x -> x.sum(0, i < 0 ? i : tape + 1, true));
        }
        for (int i : new int[] {-1, LEAST, out, MOST}) {
            refused("out(" + i + ")", Picture.THROWN, x -> Picture.outOrThrown(x, i));
        }
        for (int what : new int[] {-1, LEAST, 6, MOST}) {
            refused("about(" + what + ")", NONE, x -> x.about(what));
            refused("fault(what)", NONE, x -> x.fault(what == 6 ? 4 : what));
            refused("element(0, what)", NONE, x -> x.element(0, what == 6 ? 5 : what));
            refused("chunk(0, what)", NONE, x -> x.chunk(0, what == 6 ? 5 : what));
        }
        for (int what = 0; what < 5; what++) {
            int of = what;
            refused("element(-1, " + of + ")", NONE, x -> x.element(-1, of));
            refused("element(" + elements + ", " + of + ")", NONE, x -> x.element(elements, of));
            refused("chunk(-1, " + of + ")", NONE, x -> x.chunk(-1, of));
            refused("chunk(" + chunks + ", " + of + ")", NONE, x -> x.chunk(chunks, of));
        }
    }

    private void streams() {
        for (int piece : new int[] {0, -1, LEAST, 20_001, MOST}) {
            refused("stream(" + piece + ")", NONE, x -> x.stream(piece));
        }
        if (10 + 9 * tape > 24_000) {
            refused("stream(1)", NONE, x -> x.stream(1));
        }
    }

    /** The fault is told anew; all else is as if there had been no open() or unstream(). */
    private void faulty(String what, ToIntFunction<SnapHouse> opening, int[] text, int... fault) {
        SnapHouse without = make.get();
        Due.load(without, text);
        SnapHouse x = make.get();
        Due.load(x, text);
        Due.is(past + ": " + what, opening.applyAsInt(x), -2);
        Due.faultIs(past + ": " + what, x, fault[0], fault[1], fault[2], fault[3]);
        Picture.of(x).isThatOf(past + ": " + what, Picture.of(without), Picture.Part.FAULT);
    }

    private void block(int fault, int place, int... text) {
        faulty("a BLOCK with fault " + fault, SnapHouse::open, text, fault, place, 0, NONE);
    }

    private void faultyBlocks() {
        block(1, 0);
        block(1, 0, 128, 128, 128, 128, 16, 0, 'a');
        block(2, 0, Texts.join(Texts.length(20_001, 3), Texts.bytes(0, 'a')));
        block(3, 3, 3, 0, 'a', 4, 'b');
        block(4, 3, 5, 0, 'a', 1, 2);
        block(5, 3, 4, 0, 'a', 1, 1);
        block(6, 5, 6, 0, 'a', 1, 1);
    }

    private void stream(int fault, int place, int[]... parts) {
        faulty("a STREAM with fault " + fault, SnapHouse::unstream, Texts.join(parts), fault, place, 0, NONE);
    }

    private void faultyStreams() {
        stream(11, 0);
        stream(11, 0, ABC);
        stream(12, 21, Texts.NAME, ABC, Texts.part(ABC, 0, 10));
        stream(13, 21, Texts.NAME, ABC, Texts.chunk(255, Texts.of("sNaPpy")));
        stream(14, 25, Texts.NAME, ABC, Texts.chunk(254, new int[0]), Texts.chunk(127, new int[0]));
        stream(15, 21, Texts.NAME, ABC, Texts.chunk(1, Texts.same(0, 3)));
        int[] large = Texts.pressedChunk(Texts.blockOfSame(3, 10_001), Texts.same(3, 10_001));
        stream(17, 10 + large.length, Texts.NAME, large, large);
        stream(18, 21, Texts.NAME, ABC, Texts.with(ABC, 10, 'd'));
        // Its first ELEMENTS are right ones, and so are the CHUNKS ahead of it.
        int[] over = {3, 0, 'q', 0, 'r', 0, 's', 0, 't'};
        faulty("a STREAM with fault 16", SnapHouse::unstream, Texts.join(Texts.NAME, ABC,
            Texts.chunk(0, Texts.join(Texts.same(0, 4), over))), 16, 21, 5, 7);
    }
}
