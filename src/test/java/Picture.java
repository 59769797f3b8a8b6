import java.util.ArrayList;
import java.util.Arrays;
import java.util.List;
import java.util.NoSuchElementException;

/**
 * All that an object tells, so that two objects can be compared: one that a call was made on, and one of the same
 * past without that call. It takes some 160 calls, the last of which is a take().
 */
final class Picture {
    static final int THROWN = -3;

    enum Part { FAULT, TAPE, OUT, ELEMENTS, CHUNKS }

    private final List<List<String>> calls = new ArrayList<>();
    private final List<List<Integer>> answers = new ArrayList<>();

    private Picture() {
        for (int k = 0; k < Part.values().length; k++) {
            calls.add(new ArrayList<>());
            answers.add(new ArrayList<>());
        }
    }

    static Picture of(SnapHouse x) {
        Picture all = new Picture();
        for (int what = 0; what < 4; what++) {
            all.add(Part.FAULT, "fault(" + what + ")", x.fault(what));
        }
        all.lookAtTape(x);
        all.lookAtElements(x);
        all.lookAtChunks(x);
        all.lookAtOut(x);
        return all;
    }

    static int outOrThrown(SnapHouse x, int i) {
        try {
            return x.out(i);
        } catch (NoSuchElementException e) {
            return THROWN;
        }
    }

    /** But for the parts that the call changes. */
    void isThatOf(String what, Picture other, Part... changed) {
        for (Part part : Part.values()) {
            if (!Arrays.asList(changed).contains(part)) {
                List<Integer> mine = answers.get(part.ordinal());
                List<Integer> others = other.answers.get(part.ordinal());
                Due.is(what + ": as many looks at " + part, mine.size(), others.size());
                for (int k = 0; k < Math.min(mine.size(), others.size()); k++) {
                    Due.is(what + ", then " + calls.get(part.ordinal()).get(k), mine.get(k), others.get(k));
                }
            }
        }
    }

    private void add(Part part, String call, int answer) {
        calls.get(part.ordinal()).add(call);
        answers.get(part.ordinal()).add(answer);
    }

    private void lookAtTape(SnapHouse x) {
        int n = x.about(0);
        add(Part.TAPE, "about(0)", n);
        add(Part.TAPE, "the TAPE's sum", x.sum(0, n, false));
        for (int i : new int[] {-1, 0, n / 2, n - 1, n}) {
            add(Part.TAPE, "tape(" + i + ")", x.tape(i));
        }
    }

    private void lookAtElements(SnapHouse x) {
        int n = x.about(2);
        add(Part.ELEMENTS, "about(2)", n);
        add(Part.ELEMENTS, "about(3)", x.about(3));
        for (int i : new int[] {-1, 0, 1, 2, n - 1, n, 999, 1_000}) {
            for (int what = 0; what < 5; what++) {
                add(Part.ELEMENTS, "element(" + i + ", " + what + ")", x.element(i, what));
            }
        }
    }

    private void lookAtChunks(SnapHouse x) {
        int n = x.about(4);
        add(Part.CHUNKS, "about(4)", n);
        add(Part.CHUNKS, "about(5)", x.about(5));
        for (int i : new int[] {-1, 0, 1, 2, n - 1, n, 999, 1_000}) {
            for (int what = 0; what < 5; what++) {
                add(Part.CHUNKS, "chunk(" + i + ", " + what + ")", x.chunk(i, what));
            }
        }
    }

    private void lookAtOut(SnapHouse x) {
        int n = x.about(1);
        add(Part.OUT, "about(1)", n);
        for (int i : new int[] {-1, 0, 1, 2, 3, n - 3, n - 2, n - 1, n, 23_999, 24_000}) {
            add(Part.OUT, "out(" + i + ")", outOrThrown(x, i));
        }
        // Steps that no size of the tests' CHUNKS and ELEMENTS divides.
        for (int i = 11; i < n; i += 997) {
            add(Part.OUT, "out(" + i + ")", outOrThrown(x, i));
        }
        // The rest of it, where the TAPE has room.
        add(Part.OUT, "take()", x.take());
        if (n <= 20_000) {
            add(Part.OUT, "the sum of what was taken", x.sum(0, n, false));
        }
    }
}
