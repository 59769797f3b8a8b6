import java.util.ArrayList;
import java.util.List;
import java.util.NoSuchElementException;

/**
 * All that an object tells, so that two objects can be compared: one that a call was refused on, and one of the same
 * past without that call. It takes some 150 calls, the last of which is a take().
 */
final class Picture {
    static final int THROWN = -3;

    private final List<String> calls = new ArrayList<>();
    private final List<Integer> answers = new ArrayList<>();

    private Picture() {
    }

    static Picture withFault(SnapHouse x) {
        Picture all = new Picture();
        for (int what = 0; what < 4; what++) {
            all.add("fault(" + what + ")", x.fault(what));
        }
        all.look(x);
        return all;
    }

    static Picture withoutFault(SnapHouse x) {
        Picture all = new Picture();
        all.look(x);
        return all;
    }

    static int outOrThrown(SnapHouse x, int i) {
        try {
            return x.out(i);
        } catch (NoSuchElementException e) {
            return THROWN;
        }
    }

    void isThatOf(String what, Picture other) {
        Due.is(what + ": as many looks", answers.size(), other.answers.size());
        for (int k = 0; k < Math.min(answers.size(), other.answers.size()); k++) {
            Due.is(what + ", then " + calls.get(k), answers.get(k), other.answers.get(k));
        }
    }

    private void add(String call, int answer) {
        calls.add(call);
        answers.add(answer);
    }

    private void look(SnapHouse x) {
        for (int what = 0; what < 6; what++) {
            add("about(" + what + ")", x.about(what));
        }
        lookAtTape(x);
        lookAtOut(x);
        for (int i : new int[] {-1, 0, 1, 2, x.about(2) - 1, x.about(2), 999, 1_000}) {
            for (int what = 0; what < 5; what++) {
                add("element(" + i + ", " + what + ")", x.element(i, what));
            }
        }
        for (int i : new int[] {-1, 0, 1, 2, x.about(4) - 1, x.about(4), 999, 1_000}) {
            for (int what = 0; what < 5; what++) {
                add("chunk(" + i + ", " + what + ")", x.chunk(i, what));
            }
        }
        add("take()", x.take());
        add("the sum of what was taken", x.sum(0, x.about(0), false));
    }

    private void lookAtTape(SnapHouse x) {
        int n = x.about(0);
        add("the TAPE's sum", x.sum(0, n, false));
        for (int i : new int[] {-1, 0, n / 2, n - 1, n}) {
            add("tape(" + i + ")", x.tape(i));
        }
    }

    private void lookAtOut(SnapHouse x) {
        int n = x.about(1);
        for (int i : new int[] {-1, 0, 1, 2, 3, n - 3, n - 2, n - 1, n, 23_999, 24_000}) {
            add("out(" + i + ")", outOrThrown(x, i));
        }
        // Steps that no size of the tests' CHUNKS and ELEMENTS divides.
        for (int i = 11; i < n; i += 997) {
            add("out(" + i + ")", outOrThrown(x, i));
        }
    }
}
