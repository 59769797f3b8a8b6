import java.util.ArrayList;
import java.util.List;

/** The document once more, as plainly as can be and without care for speed: what RandomRunsTest compares with. */
final class PlainHouse {
    private static final int NONE = -1;

    private List<Integer> tape = new ArrayList<>();
    private List<Integer> out = new ArrayList<>();
    private int[] fault = {NONE, NONE, NONE, NONE};
    private List<int[]> elements = new ArrayList<>();
    private List<int[]> chunks = new ArrayList<>();

    /** What ends an open() or unstream(). */
    private static final class Fault extends Exception {
        private static final long serialVersionUID = 1;
        final int number;
        final int place;
        final int inBlock;
        final int placeInBlock;

        Fault(int number, int place) {
            this(number, place, 0, NONE);
        }

        Fault(int number, int place, int inBlock, int placeInBlock) {
            this.number = number;
            this.place = place;
            this.inBlock = inBlock;
            this.placeInBlock = placeInBlock;
        }
    }

    int feed(int... numbers) {
        if (tape.size() + 20 > 20_000) {
            return NONE;
        }
        for (int number : numbers) {
            for (int shift = 24; shift >= 0; shift -= 8) {
                tape.add(number >> shift & 255);
            }
        }
        return tape.size();
    }

    int fill(int b, int n) {
        if (b < 0 || b > 255 || n < 0 || n > 20_000 || tape.size() + n > 20_000) {
            return NONE;
        }
        for (int k = 0; k < n; k++) {
            tape.add(b);
        }
        return tape.size();
    }

    int again(int i, int n) {
        if (i < 0 || i >= tape.size() || n < 0 || n > 20_000 || tape.size() + n > 20_000) {
            return NONE;
        }
        for (int k = 0; k < n; k++) {
            tape.add(tape.get(i + k));
        }
        return tape.size();
    }

    int cut(int n) {
        if (n < 0 || n > tape.size()) {
            return NONE;
        }
        tape = new ArrayList<>(tape.subList(0, n));
        return n;
    }

    int set(int i, int b) {
        return i < 0 || i >= tape.size() || b < 0 || b > 255 ? NONE : tape.set(i, b);
    }

    int take() {
        if (out.size() > 20_000) {
            return NONE;
        }
        tape = new ArrayList<>(out);
        return tape.size();
    }

    int tape(int i) {
        return i < 0 || i >= tape.size() ? NONE : tape.get(i);
    }

    int press() {
        out = pressed(tape);
        return out.size();
    }

    int open() {
        try {
            List<int[]> found = new ArrayList<>();
            out = opened(tape, found);
            elements = found;
            fault = new int[] {0, NONE, 0, NONE};
            return out.size();
        } catch (Fault f) {
            fault = new int[] {f.number, f.place, 0, NONE};
            return -2;
        }
    }

    int stream(int piece) {
        if (piece < 1 || piece > 20_000) {
            return NONE;
        }
        List<Integer> made = new ArrayList<>();
        for (int b : Texts.NAME) {
            made.add(b);
        }
        for (int from = 0; from < tape.size() && made.size() <= 24_000; from += piece) {
            List<Integer> bytes = tape.subList(from, Math.min(from + piece, tape.size()));
            List<Integer> block = pressed(bytes);
            boolean shorter = block.size() < bytes.size() - bytes.size() / 8;
            made.add(shorter ? 0 : 1);
            putNumber(made, (shorter ? block : bytes).size() + 4, 3);
            putNumber(made, masked(crc(bytes)), 4);
            made.addAll(shorter ? block : bytes);
        }
        if (made.size() > 24_000) {
            return NONE;
        }
        out = made;
        return out.size();
    }

    int unstream() {
        try {
            List<int[]> found = new ArrayList<>();
            out = unstreamed(tape, found);
            chunks = found;
            fault = new int[] {0, NONE, 0, NONE};
            return out.size();
        } catch (Fault f) {
            fault = new int[] {f.number, f.place, f.inBlock, f.placeInBlock};
            return -2;
        }
    }

    int fault(int what) {
        return what < 0 || what > 3 ? NONE : fault[what];
    }

    int element(int i, int what) {
        return told(elements, i, what);
    }

    int chunk(int i, int what) {
        return told(chunks, i, what);
    }

    private static int told(List<int[]> rows, int i, int what) {
        return i < 0 || i >= 1_000 || i >= rows.size() || what < 0 || what > 4 ? NONE : rows.get(i)[what];
    }

    int sum(int i, int n, boolean masked) {
        if (i < 0 || n < 0 || (long) i + n > tape.size()) {
            return 0;
        }
        int crc = crc(tape.subList(i, i + n));
        return masked ? masked(crc) : crc;
    }

    /** NONE stands for the exception. */
    int out(int i) {
        return i < 0 || i >= out.size() ? NONE : out.get(i);
    }

    int about(int what) {
        switch (what) {
            case 0:
                return tape.size();
            case 1:
                return out.size();
            case 2:
                return elements.size();
            case 3:
                return (int) elements.stream().filter(row -> row[0] == 0).count();
            case 4:
                return chunks.size();
            case 5:
                return (int) chunks.stream().filter(row -> row[0] >= 128 && row[0] <= 254).count();
            default:
                return NONE;
        }
    }

    private static void putNumber(List<Integer> to, long number, int n) {
        for (int k = 0; k < n; k++) {
            to.add((int) (number >> 8 * k & 255));
        }
    }

    private static long number(List<Integer> from, int place, int n) {
        long number = 0;
        for (int k = n - 1; k >= 0; k--) {
            number = number * 256 + from.get(place + k);
        }
        return number;
    }

    private static int crc(List<Integer> bytes) {
        int crc = -1;
        for (int b : bytes) {
            for (int bit = 0; bit < 8; bit++) {
                boolean odd = ((crc ^ b >> bit) & 1) != 0;
                crc = odd ? crc >>> 1 ^ Integer.reverse(0x1EDC6F41) : crc >>> 1;
            }
        }
        return ~crc;
    }

    private static int masked(int crc) {
        return (crc << 17 | crc >>> 15) + 0xA282EAD8;
    }

    private static List<Integer> pressed(List<Integer> text) {
        int[] t = text.stream().mapToInt(b -> b).toArray();
        List<Integer> block = new ArrayList<>();
        int left = t.length;
        while (left >= 128) {
            block.add(left % 128 + 128);
            left /= 128;
        }
        block.add(left);
        int told = 0;
        int p = 0;
        while (p < t.length) {
            int q = latest(t, p);
            if (q == NONE) {
                p++;
                continue;
            }
            putLiteral(block, text.subList(told, p));
            int k = 0;
            while (p + k < t.length && t[q + k] == t[p + k]) {
                k++;
            }
            putCopies(block, k, p - q);
            p += k;
            told = p;
        }
        putLiteral(block, text.subList(told, t.length));
        return block;
    }

    private static int latest(int[] t, int p) {
        if (p + 4 > t.length) {
            return NONE;
        }
        for (int q = p - 1; q >= 0; q--) {
            if (t[q] == t[p] && t[q + 1] == t[p + 1] && t[q + 2] == t[p + 2] && t[q + 3] == t[p + 3]) {
                return q;
            }
        }
        return NONE;
    }

    private static void putLiteral(List<Integer> block, List<Integer> bytes) {
        int u = bytes.size() - 1;
        if (u < 0) {
            return;
        }
        int more = u < 60 ? 0 : u < 256 ? 1 : 2;
        block.add((more == 0 ? u : 59 + more) * 4);
        putNumber(block, u, more);
        block.addAll(bytes);
    }

    private static void putCopies(List<Integer> block, int k, int d) {
        if (k >= 68) {
            putCopy(block, 64, d);
            putCopies(block, k - 64, d);
        } else if (k > 64) {
            putCopy(block, 60, d);
            putCopies(block, k - 60, d);
        } else if (k < 12 && d < 2048) {
            block.add(1 + 4 * (k - 4) + 32 * (d / 256));
            block.add(d % 256);
        } else {
            putCopy(block, k, d);
        }
    }

    private static void putCopy(List<Integer> block, int k, int d) {
        block.add(2 + 4 * (k - 1));
        putNumber(block, d, 2);
    }

    private static List<Integer> opened(List<Integer> block, List<int[]> found) throws Fault {
        int bytes = 0;
        while (bytes < block.size() && bytes < 5 && block.get(bytes) >= 128) {
            bytes++;
        }
        if (bytes == 5 || bytes == block.size()) {
            throw new Fault(1, 0);
        }
        long length = 0;
        for (int k = bytes; k >= 0; k--) {
            length = length * 128 + block.get(k) % 128;
        }
        if (length >= 4_294_967_296L) {
            throw new Fault(1, 0);
        }
        if (length > 20_000) {
            throw new Fault(2, 0);
        }
        List<Integer> told = new ArrayList<>();
        int p = bytes + 1;
        while (p < block.size()) {
            p = openElement(block, p, length, told, found);
        }
        if (told.size() < length) {
            throw new Fault(6, block.size());
        }
        return told;
    }

    private static int openElement(List<Integer> block, int p, long length, List<Integer> told, List<int[]> found) throws Fault {
        int sort = block.get(p) % 4;
        int u = block.get(p) / 4;
        int more = sort == 0 ? Math.max(0, u - 59) : sort == 3 ? 4 : sort;
        if (p + 1 + more > block.size()) {
            throw new Fault(3, p);
        }
        long number = number(block, p + 1, more);
        long size = sort == 1 ? u % 8 + 4 : more > 0 && sort == 0 ? number + 1 : u + 1;
        long back = sort == 0 ? 0 : sort == 1 ? u / 8 * 256 + number : number;
        int body = p + 1 + more;
        if (sort == 0 && body + size > block.size()) {
            throw new Fault(3, p);
        }
        if (sort != 0 && (back < 1 || back > told.size())) {
            throw new Fault(4, p);
        }
        if (told.size() + size > length) {
            throw new Fault(5, p);
        }
        found.add(new int[] {sort, p, (int) size, (int) back, told.size()});
        for (int k = 0; k < size; k++) {
            told.add(sort == 0 ? block.get(body + k) : told.get(told.size() - (int) back));
        }
        return sort == 0 ? body + (int) size : body;
    }

    private static List<Integer> unstreamed(List<Integer> text, List<int[]> found) throws Fault {
        if (text.isEmpty() || text.get(0) != 255) {
            throw new Fault(11, 0);
        }
        List<Integer> told = new ArrayList<>();
        int p = 0;
        while (p < text.size()) {
            if (p + 4 > text.size() || p + 4 + number(text, p + 1, 3) > text.size()) {
                throw new Fault(12, p);
            }
            int size = (int) number(text, p + 1, 3);
            List<Integer> gives = openChunk(text.get(p), text.subList(p + 4, p + 4 + size), p, told.size());
            found.add(new int[] {text.get(p), p, size, gives.size(), told.size()});
            told.addAll(gives);
            p += 4 + size;
        }
        return told;
    }

    private static List<Integer> openChunk(int type, List<Integer> behind, int p, int before) throws Fault {
        if (type == 255 && !behind.equals(List.of(115, 78, 97, 80, 112, 89))) {
            throw new Fault(13, p);
        }
        if (type >= 2 && type <= 127) {
            throw new Fault(14, p);
        }
        if (type >= 2) {
            return new ArrayList<>();
        }
        if (behind.size() < 4) {
            throw new Fault(15, p);
        }
        List<Integer> gives = behind.subList(4, behind.size());
        if (type == 0) {
            try {
                gives = opened(gives, new ArrayList<>());
            } catch (Fault f) {
                throw new Fault(16, p, f.number, f.place);
            }
        }
        if (before + gives.size() > 20_000) {
            throw new Fault(17, p);
        }
        if ((int) number(behind, 0, 4) != masked(crc(gives))) {
            throw new Fault(18, p);
        }
        return gives;
    }
}
