import java.util.ArrayDeque;
import java.util.Deque;
import java.util.NoSuchElementException;
import java.util.Random;

/** All promises: runs of up to 512 calls, drawn by fixed seeds, whose answers are those of PlainHouse. */
public final class RandomRunsTest {
    private static final int RUNS = 1_500;
    private static final int CALLS = 512;

    private final Random draw;
    private final SnapHouse x = new SnapHouse();
    private final PlainHouse y = new PlainHouse();
    private final int seed;
    // The latest calls, for the one who looks for a fault.
    private final Deque<String> latest = new ArrayDeque<>();
    private int calls = 0;
    private static final int[] faultsSeen = new int[19];

    private RandomRunsTest(int seed) {
        this.seed = seed;
        draw = new Random(seed);
    }

    public static void main(String[] args) {
        for (int seed = 0; seed < RUNS; seed++) {
            new RandomRunsTest(seed).run();
        }
        for (int fault : new int[] {0, 1, 2, 3, 4, 5, 6, 11, 12, 13, 14, 15, 16, 17, 18}) {
            Due.holds("fault " + fault + " was met", faultsSeen[fault] > 0);
        }
        Due.end("RandomRunsTest");
    }

    private void same(String call, long got, long want) {
        calls++;
        latest.addLast(call + " = " + want);
        if (latest.size() > 12) {
            latest.removeFirst();
        }
        if (got != want) {
            System.out.println("seed " + seed + ", behind " + latest);
        }
        Due.is(call, got, want);
    }

    private void run() {
        while (calls < CALLS - 220) {
            switch (draw.nextInt(12)) {
                case 0:
                    wrongNumbers();
                    break;
                case 1:
                    block();
                    break;
                case 2:
                    stream();
                    break;
                case 3:
                case 4:
                    spoil();
                    break;
                case 5:
                    press();
                    break;
                case 6:
                    take();
                    break;
                case 7:
                    makeStream();
                    break;
                case 8:
                    open();
                    break;
                case 9:
                    unstream();
                    break;
                default:
                    grow();
                    break;
            }
            look();
        }
        Due.holds("no more calls than an object is used for: " + calls, calls <= CALLS);
    }

    private int upTo(int n) {
        return draw.nextInt(n + 1);
    }

    private int someSize() {
        int[] sizes = {5, 20, 100, 300, 3_000, 20_000};
        return upTo(sizes[draw.nextInt(sizes.length)]);
    }

    private void grow() {
        if (draw.nextInt(4) == 0) {
            int n = draw.nextInt(3) == 0 ? 0 : upTo(Math.max(y.about(0), 0));
            same("cut(" + n + ")", x.cut(n), y.cut(n));
        }
        for (int k = upTo(6); k > 0; k--) {
            switch (draw.nextInt(4)) {
                case 0:
                    int b = upTo(255);
                    int n = someSize();
                    same("fill(" + b + ", " + n + ")", x.fill(b, n), y.fill(b, n));
                    break;
                case 1:
                    int i = upTo(y.about(0));
                    int m = someSize();
                    same("again(" + i + ", " + m + ")", x.again(i, m), y.again(i, m));
                    break;
                default:
                    feed();
                    break;
            }
        }
    }

    private void feed() {
        int[] n = new int[5];
        int few = draw.nextInt(3) == 0 ? -1 : 0x01010101 * (1 + upTo(2));
        for (int k = 0; k < 5; k++) {
            n[k] = draw.nextInt() & few;
        }
        same("feed", x.feed(n[0], n[1], n[2], n[3], n[4]), y.feed(n));
    }

    private void load(int[] bytes) {
        same("cut(0)", x.cut(0), y.cut(0));
        more(bytes);
    }

    private void more(int[] bytes) {
        for (int b : bytes) {
            same("fill(" + b + ", 1)", x.fill(b, 1), y.fill(b, 1));
        }
    }

    /** ELEMENTS of every sort, mostly right ones. */
    private int[] someBlock(int elements) {
        int[] body = new int[0];
        int told = 0;
        for (int k = 0; k < elements; k++) {
            int sort = told == 0 ? 0 : draw.nextInt(4);
            int back = draw.nextInt(30) == 0 ? upTo(300) : 1 + draw.nextInt(Math.max(told, 1));
            if (sort == 0) {
                int n = 1 + upTo(3);
                int more = upTo(4);
                int[] tag = more == 0 ? Texts.bytes(n - 1 << 2) : Texts.join(Texts.bytes(59 + more << 2), Texts.lowestFirst(n - 1, more));
                body = Texts.join(body, tag, Texts.same(upTo(255), n));
                told += n;
            } else if (sort == 1) {
                int n = 4 + upTo(7);
                body = Texts.join(body, Texts.bytes(n - 4 << 2 | back >> 8 << 5 & 255 | 1, back & 255));
                told += n;
            } else {
                int n = 1 + upTo(63);
                body = Texts.join(body, Texts.bytes(n - 1 << 2 | sort), Texts.lowestFirst(back, sort == 2 ? 2 : 4));
                told += n;
            }
        }
        told += draw.nextInt(12) == 0 ? upTo(4) - 2 : 0;
        told = Math.max(told, 0);
        return Texts.join(told < 128 ? Texts.bytes(told) : Texts.bytes(told & 127 | 128, told >> 7), body);
    }

    private void block() {
        load(someBlock(upTo(6)));
        if (draw.nextInt(6) == 0 && y.about(0) > 2) {
            same("again", x.again(1, 400), y.again(1, 400));
        }
        open();
    }

    private void stream() {
        load(Texts.NAME);
        for (int k = upTo(3); k > 0; k--) {
            switch (draw.nextInt(5)) {
                case 0:
                    more(Texts.chunk(upTo(255), Texts.same(upTo(255), upTo(4))));
                    break;
                case 1:
                    more(Texts.NAME);
                    break;
                case 2:
                    int[] block = someBlock(upTo(3));
                    more(Texts.chunk(0, Texts.join(Texts.same(0, upTo(4)), block)));
                    break;
                default:
                    more(Texts.plainChunk(Texts.same(upTo(255), upTo(5))));
                    break;
            }
        }
        if (draw.nextInt(4) == 0) {
            pressedChunks();
        }
        unstream();
    }

    /** Large ones, whose bytes together may be too many. */
    private void pressedChunks() {
        for (int k = upTo(3); k > 0 && calls < CALLS - 90; k--) {
            int n = 129 + upTo(12_000);
            int[] chunk = Texts.pressedChunk(Texts.blockOfSame(3, n), Texts.same(3, n));
            for (int from = 0; from < chunk.length; from += 20) {
                int[] numbers = new int[5];
                for (int i = 0; i < 20; i++) {
                    numbers[i / 4] = numbers[i / 4] << 8 | (from + i < chunk.length ? chunk[from + i] : 0);
                }
                same("feed", x.feed(numbers[0], numbers[1], numbers[2], numbers[3], numbers[4]), y.feed(numbers));
            }
            int end = y.about(0) - (20 - chunk.length % 20) % 20;
            same("cut(" + end + ")", x.cut(end), y.cut(end));
        }
    }

    private void spoil() {
        for (int k = 1 + upTo(2); k > 0; k--) {
            int i = draw.nextBoolean() ? upTo(Math.min(30, y.about(0))) : upTo(y.about(0));
            int b = draw.nextBoolean() ? upTo(255) : Math.max(0, y.tape(i)) ^ 1 << upTo(7);
            same("set(" + i + ", " + b + ")", x.set(i, b), y.set(i, b));
        }
        if (draw.nextInt(5) == 0) {
            int n = Math.max(0, y.about(0) - upTo(10));
            same("cut(" + n + ")", x.cut(n), y.cut(n));
        }
        if (draw.nextBoolean()) {
            open();
        } else {
            unstream();
        }
    }

    private void press() {
        same("press()", x.press(), y.press());
        if (draw.nextBoolean()) {
            take();
            open();
        }
    }

    private void take() {
        same("take()", x.take(), y.take());
        same("sum of all", x.sum(0, y.about(0), false), y.sum(0, y.about(0), false));
    }

    private void makeStream() {
        int piece = draw.nextInt(8) == 0 ? upTo(20_002) - 1 : 1 + someSize();
        same("stream(" + piece + ")", x.stream(piece), y.stream(piece));
        if (draw.nextInt(3) > 0) {
            take();
            unstream();
        }
    }

    private void open() {
        same("open()", x.open(), y.open());
        faultSeen();
    }

    private void unstream() {
        same("unstream()", x.unstream(), y.unstream());
        faultSeen();
    }

    private void faultSeen() {
        faultsSeen[y.fault(0)]++;
        for (int what = 0; what < 4; what++) {
            same("fault(" + what + ")", x.fault(what), y.fault(what));
        }
    }

    private int someNumber() {
        int[] numbers = {-1, 0, 1, 2, 3, 4, 5, 6, 255, 256, 999, 1_000, 1_001, 19_999, 20_000, 20_001, 23_999, 24_000,
            Integer.MAX_VALUE, Integer.MIN_VALUE, y.about(0), y.about(0) - 1, y.about(0) + 1, y.about(1), y.about(1) - 1};
        return numbers[draw.nextInt(numbers.length)];
    }

    private void wrongNumbers() {
        int i = someNumber();
        int n = someNumber();
        String both = "(" + i + ", " + n + ")";
        same("set" + both, x.set(i, n), y.set(i, n));
        same("again" + both, x.again(i, n), y.again(i, n));
        same("fill" + both, x.fill(i, n), y.fill(i, n));
        same("sum" + both, x.sum(i, n, true), y.sum(i, n, true));
        same("element" + both, x.element(i, n), y.element(i, n));
        same("chunk" + both, x.chunk(i, n), y.chunk(i, n));
        same("stream(" + i + ")", x.stream(i), y.stream(i));
        same("cut(" + n + ")", x.cut(n), y.cut(n));
        same("fault(" + i + ")", x.fault(i), y.fault(i));
        same("about(" + i + ")", x.about(i), y.about(i));
    }

    private int outOrNone(int i) {
        try {
            return x.out(i);
        } catch (NoSuchElementException e) {
            return SnapHouse.NONE;
        }
    }

    private void look() {
        for (int what = 0; what < 6; what++) {
            same("about(" + what + ")", x.about(what), y.about(what));
        }
        int i = draw.nextBoolean() ? upTo(y.about(2)) : upTo(10);
        int c = draw.nextBoolean() ? upTo(y.about(4)) : upTo(10);
        for (int what = 0; what < 5; what++) {
            same("element(" + i + ", " + what + ")", x.element(i, what), y.element(i, what));
            same("chunk(" + c + ", " + what + ")", x.chunk(c, what), y.chunk(c, what));
        }
        for (int k = 0; k < 4; k++) {
            int p = k == 0 ? someNumber() : upTo(y.about(1));
            same("out(" + p + ")", outOrNone(p), y.out(p));
            int t = k == 0 ? someNumber() : upTo(y.about(0));
            same("tape(" + t + ")", x.tape(t), y.tape(t));
        }
        int from = upTo(y.about(0));
        int n = upTo(y.about(0) - from);
        boolean masked = draw.nextBoolean();
        same("sum(" + from + ", " + n + ", " + masked + ")", x.sum(from, n, masked), y.sum(from, n, masked));
    }
}
