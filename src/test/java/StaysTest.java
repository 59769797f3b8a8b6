import java.util.function.Consumer;
import java.util.function.Supplier;
import java.util.function.ToIntFunction;

/** Every call that is taken changes what its promise names, and leaves all else as it was. */
public final class StaysTest {
    private static final Picture.Part TAPE = Picture.Part.TAPE;
    private static final Picture.Part OUT = Picture.Part.OUT;
    private static final Picture.Part FAULT = Picture.Part.FAULT;
    private static final Picture.Part ELEMENTS = Picture.Part.ELEMENTS;
    private static final Picture.Part CHUNKS = Picture.Part.CHUNKS;

    private final String past;
    private final Supplier<SnapHouse> make;
    private final int tape;
    private final int out;

    private StaysTest(String past, Supplier<SnapHouse> make) {
        this.past = past;
        this.make = make;
        SnapHouse x = make.get();
        tape = x.about(0);
        out = x.about(1);
    }

    public static void main(String[] args) {
        Pasts.all().forEach((past, make) -> {
            StaysTest test = new StaysTest(past, make);
            test.bytesChangeTheTape();
            test.pressingChangesOut();
            test.openingChangesItsOwn();
            test.looksChangeNone();
        });
        Due.end("StaysTest");
    }

    private void taken(String call, int want, ToIntFunction<SnapHouse> made, Picture.Part... changed) {
        taken(call, want, made, x -> { }, changed);
    }

    private void taken(String call, int want, ToIntFunction<SnapHouse> made, Consumer<SnapHouse> ahead, Picture.Part... changed) {
        SnapHouse without = make.get();
        ahead.accept(without);
        SnapHouse x = make.get();
        ahead.accept(x);
        Due.is(past + ": " + call, made.applyAsInt(x), want);
        Picture.of(x).isThatOf(past + ": " + call, Picture.of(without), changed);
    }

    private void bytesChangeTheTape() {
        if (tape <= 19_980) {
            taken("feed()", tape + 20, x -> x.feed(1, 2, 3, 4, 5), TAPE);
        }
        taken("fill up to the room", 20_000, x -> x.fill(3, 20_000 - tape), TAPE);
        taken("fill of none", tape, x -> x.fill(3, 0));
        if (tape > 0) {
            taken("again up to the room", 20_000, x -> x.again(tape - 1, 20_000 - tape), TAPE);
            taken("again of none", tape, x -> x.again(0, 0));
            taken("cut of the last", tape - 1, x -> x.cut(tape - 1), TAPE);
            SnapHouse x = make.get();
            int last = x.tape(tape - 1);
            taken("set of the last", last, y -> y.set(tape - 1, last ^ 1), TAPE);
            taken("set to what it was", last, y -> y.set(tape - 1, last));
        }
        taken("cut of none", tape, x -> x.cut(tape));
        taken("cut of all", 0, x -> x.cut(0), TAPE);
        if (out <= 20_000) {
            taken("take()", out, SnapHouse::take, TAPE);
        }
    }

    private void pressingChangesOut() {
        SnapHouse x = make.get();
        int pressed = x.press();
        taken("press()", pressed, SnapHouse::press, OUT);
        int streamed = x.stream(20_000);
        taken("stream(20,000)", streamed, y -> y.stream(20_000), OUT);
        Due.holds("both are taken", pressed > 0 && streamed >= 10);
    }

    private void openingChangesItsOwn() {
        int[] block = {3, 0, 'q', 0, 'r', 0, 's'};
        taken("open()", 3, SnapHouse::open, x -> Due.load(x, block), OUT, FAULT, ELEMENTS);
        taken("open() of none", 0, SnapHouse::open, x -> Due.load(x, 0), OUT, FAULT, ELEMENTS);
        int[] stream = Texts.join(Texts.NAME, Texts.pressedChunk(block, Texts.of("qrs")), Texts.chunk(129, new int[0]));
        taken("unstream()", 3, SnapHouse::unstream, x -> Due.load(x, stream), OUT, FAULT, CHUNKS);
        taken("unstream() of none", 0, SnapHouse::unstream, x -> Due.load(x, Texts.NAME), OUT, FAULT, CHUNKS);
    }

    private void looksChangeNone() {
        SnapHouse x = make.get();
        int first = x.tape(0);
        int crc = x.sum(0, tape, false);
        int masked = x.sum(0, tape, true);
        int fault = x.fault(0);
        int element = x.element(0, 2);
        int chunk = x.chunk(0, 2);
        taken("tape(0)", first, y -> y.tape(0));
        taken("sum of all", crc, y -> y.sum(0, tape, false));
        taken("sum of all, masked", masked, y -> y.sum(0, tape, true));
        taken("fault(0)", fault, y -> y.fault(0));
        taken("element(0, 2)", element, y -> y.element(0, 2));
        taken("chunk(0, 2)", chunk, y -> y.chunk(0, 2));
        taken("about(0)", tape, y -> y.about(0));
        if (out > 0) {
            int last = x.out(out - 1);
            taken("out of the last", last, y -> y.out(out - 1));
        }
    }
}
