import java.util.NoSuchElementException;

/**
 * A press for bytes after Snappy: BLOCKS of LITERALS and COPIES, and STREAMS of CHUNKS.
 * The words in capitals are the terms of the document.
 */
public final class SnapHouse {
    public static final int NONE = -1;

    private static final int FAULTY = -2;
    private static final int TAPE_ROOM = 20_000;
    private static final int OUT_ROOM = 24_000;

    private static final int LITERAL = 0;
    private static final int NEAR_COPY = 1;
    private static final int COPY = 2;

    private static final int LENGTH_FAULT = 1;
    private static final int LENGTH_ROOM_FAULT = 2;
    private static final int ELEMENT_CUT_FAULT = 3;
    private static final int BACK_FAULT = 4;
    private static final int OVER_FAULT = 5;
    private static final int UNDER_FAULT = 6;

    private static final int BEGIN_FAULT = 11;
    private static final int CHUNK_CUT_FAULT = 12;
    private static final int NAME_FAULT = 13;
    private static final int TYPE_FAULT = 14;
    private static final int SHORT_FAULT = 15;
    private static final int BLOCK_FAULT = 16;
    private static final int STREAM_ROOM_FAULT = 17;
    private static final int SUM_FAULT = 18;

    private static final int PRESSED_TYPE = 0;
    private static final int PLAIN_TYPE = 1;
    private static final int FIRST_SKIPPED_TYPE = 128;
    private static final int NAME_TYPE = 255;
    private static final int HEADER_BYTES = 4;
    private static final int SUM_BYTES = 4;
    private static final int NAME_BYTES = 6;
    private static final int[] NAME = {'s', 'N', 'a', 'P', 'p', 'Y'};

    private final Bytes theTape = new Bytes(TAPE_ROOM);
    private final Bytes theOut = new Bytes(OUT_ROOM);
    private final Presser presser = new Presser();
    private final StreamMaker streamMaker = new StreamMaker();
    private final BlockOpener blockOpener = new BlockOpener();
    private final StreamOpener streamOpener = new StreamOpener();
    // The openers' own rows are lost when they meet a fault; these stay.
    private final Rows keptElements = new Rows();
    private final Rows keptChunks = new Rows();
    private int faultNumber = NONE;
    private int faultPlace = NONE;
    private int faultOfBlock = NONE;
    private int faultPlaceInBlock = NONE;

    public SnapHouse() {
    }

    public int feed(int a, int b, int c, int d, int e) {
        if (!theTape.hasRoomFor(20)) {
            return NONE;
        }
        theTape.putHighestFirst(a);
        theTape.putHighestFirst(b);
        theTape.putHighestFirst(c);
        theTape.putHighestFirst(d);
        theTape.putHighestFirst(e);
        return theTape.count;
    }

    public int fill(int b, int n) {
        if (!isByte(b) || !theTape.hasRoomFor(n)) {
            return NONE;
        }
        for (int k = 0; k < n; k++) {
            theTape.put(b);
        }
        return theTape.count;
    }

    public int again(int i, int n) {
        if (!theTape.hasPlace(i) || !theTape.hasRoomFor(n)) {
            return NONE;
        }
        theTape.putOwn(i, n);
        return theTape.count;
    }

    public int cut(int n) {
        if (!theTape.has(0, n)) {
            return NONE;
        }
        theTape.shorten(n);
        return n;
    }

    public int set(int i, int b) {
        if (!theTape.hasPlace(i) || !isByte(b)) {
            return NONE;
        }
        int before = theTape.at(i);
        theTape.change(i, b);
        return before;
    }

    public int take() {
        if (theOut.count > TAPE_ROOM) {
            return NONE;
        }
        theTape.become(theOut);
        return theTape.count;
    }

    public int tape(int i) {
        return theTape.at(i);
    }

    public int press() {
        presser.pressBlock(theTape, 0, theTape.count);
        theOut.become(presser.block);
        return theOut.count;
    }

    public int open() {
        blockOpener.openBlock(theTape, 0, theTape.count);
        keepFault(blockOpener.fault, blockOpener.place, 0, NONE);
        if (blockOpener.fault != 0) {
            return FAULTY;
        }
        theOut.become(blockOpener.given);
        keptElements.become(blockOpener.elements);
        return theOut.count;
    }

    public int stream(int piece) {
        if (piece < 1 || piece > TAPE_ROOM) {
            return NONE;
        }
        if (!streamMaker.makeStream(theTape, piece, presser)) {
            return NONE;
        }
        theOut.become(streamMaker.made);
        return theOut.count;
    }

    public int unstream() {
        streamOpener.openStream(theTape, blockOpener);
        if (streamOpener.fault == BLOCK_FAULT) {
            keepFault(BLOCK_FAULT, streamOpener.place, blockOpener.fault, blockOpener.place);
        } else {
            keepFault(streamOpener.fault, streamOpener.place, 0, NONE);
        }
        if (streamOpener.fault != 0) {
            return FAULTY;
        }
        theOut.become(streamOpener.given);
        keptChunks.become(streamOpener.chunks);
        return theOut.count;
    }

    public int fault(int what) {
        switch (what) {
            case 0:
                return faultNumber;
            case 1:
                return faultPlace;
            case 2:
                return faultOfBlock;
            case 3:
                return faultPlaceInBlock;
            default:
                return NONE;
        }
    }

    public int element(int i, int what) {
        return keptElements.cell(i, what);
    }

    public int chunk(int i, int what) {
        return keptChunks.cell(i, what);
    }

    public int sum(int i, int n, boolean masked) {
        if (!theTape.has(i, n)) {
            return 0;
        }
        return masked ? theTape.maskedCrc(i, n) : theTape.crc(i, n);
    }

    public int out(int i) throws NoSuchElementException {
        if (!theOut.hasPlace(i)) {
            throw new NoSuchElementException("OUT has no such byte");
        }
        return theOut.at(i);
    }

    public int about(int what) {
        switch (what) {
            case 0:
                return theTape.count;
            case 1:
                return theOut.count;
            case 2:
                return keptElements.count;
            case 3:
                return keptElements.marked;
            case 4:
                return keptChunks.count;
            case 5:
                return keptChunks.marked;
            default:
                return NONE;
        }
    }

    private static boolean isByte(int b) {
        return b >= 0 && b <= 255;
    }

    private void keepFault(int number, int place, int ofBlock, int placeInBlock) {
        faultNumber = number;
        faultPlace = place;
        faultOfBlock = ofBlock;
        faultPlaceInBlock = placeInBlock;
    }

    /** A row of bytes (each 0 .. 255) that grows up to its room. */
    private static final class Bytes {
        // The CRC-32C of each half byte, the lowest bit first: two steps a byte.
        private static final int[] CRC_STEPS = {
            0x00000000, 0x105EC76F, 0x20BD8EDE, 0x30E349B1, 0x417B1DBC, 0x5125DAD3, 0x61C69362, 0x7198540D,
            0x82F63B78, 0x92A8FC17, 0xA24BB5A6, 0xB21572C9, 0xC38D26C4, 0xD3D3E1AB, 0xE330A81A, 0xF36E6F75
        };
        private static final int MASK_TURN = 17;
        private static final int MASK_MORE = 0xA282EAD8;

        private final int[] row;
        private int count = 0;

        Bytes(int room) {
            row = new int[Math.max(room, 0)];
        }

        boolean hasRoomFor(int n) {
            return n >= 0 && n <= row.length - count;
        }

        boolean hasPlace(int i) {
            return i >= 0 && i < count;
        }

        boolean has(int from, int n) {
            return from >= 0 && n >= 0 && from <= count - n;
        }

        int at(int i) {
            return i >= 0 && i < count ? row[i] : NONE;
        }

        void change(int i, int b) {
            if (hasPlace(i)) {
                row[i] = b;
            }
        }

        void shorten(int n) {
            if (has(0, n)) {
                count = n;
            }
        }

        void put(int b) {
            if (count < row.length) {
                row[count] = b;
                count++;
            }
        }

        void putHighestFirst(int number) {
            put(number >>> 24);
            put((number >>> 16) & 255);
            put((number >>> 8) & 255);
            put(number & 255);
        }

        void putLowestFirst(int number, int bytes) {
            for (int k = 0; k < bytes; k++) {
                put((number >>> (8 * k)) & 255);
            }
        }

        void putAll(Bytes other, int from, int n) {
            if (other.has(from, n) && hasRoomFor(n)) {
                System.arraycopy(other.row, from, row, count, n);
                count += n;
            }
        }

        // One by one, as what has just come may come again.
        void putOwn(int from, int n) {
            if (!hasPlace(from) || !hasRoomFor(n)) {
                return;
            }
            for (int k = 0; k < n; k++) {
                row[count] = row[from + k];
                count++;
            }
        }

        void become(Bytes other) {
            count = 0;
            putAll(other, 0, other.count);
        }

        /** The number that up to four bytes tell, which as an int could be below 0. */
        long lowestFirst(int from, int bytes) {
            long number = 0;
            for (int k = 0; k < bytes; k++) {
                number |= (long) at(from + k) << (8 * k);
            }
            return number;
        }

        int fourFrom(int i) {
            if (!has(i, 4)) {
                return NONE;
            }
            return row[i] | (row[i + 1] << 8) | (row[i + 2] << 16) | (row[i + 3] << 24);
        }

        int crc(int from, int n) {
            if (!has(from, n)) {
                return 0;
            }
            int rest = -1;
            for (int k = 0; k < n; k++) {
                rest ^= row[from + k];
                rest = (rest >>> 4) ^ CRC_STEPS[rest & 15];
                rest = (rest >>> 4) ^ CRC_STEPS[rest & 15];
            }
            return ~rest;
        }

        int maskedCrc(int from, int n) {
            return Integer.rotateLeft(crc(from, n), MASK_TURN) + MASK_MORE;
        }
    }

    /** What is told of ELEMENTS or CHUNKS: all are counted, the first ones kept. */
    private static final class Rows {
        private static final int KEPT = 1_000;
        private static final int WIDTH = 5;

        private final int[] cells = new int[KEPT * WIDTH];
        private int count = 0;
        private int marked = 0;

        void clear() {
            count = 0;
            marked = 0;
        }

        void add(int sort, int place, int size, int detail, int outPlace, boolean mark) {
            if (count < KEPT) {
                int cell = count * WIDTH;
                cells[cell] = sort;
                cells[cell + 1] = place;
                cells[cell + 2] = size;
                cells[cell + 3] = detail;
                cells[cell + 4] = outPlace;
            }
            count++;
            if (mark) {
                marked++;
            }
        }

        int cell(int i, int what) {
            if (i < 0 || i >= Math.min(count, KEPT) || what < 0 || what >= WIDTH) {
                return NONE;
            }
            return cells[i * WIDTH + what];
        }

        void become(Rows other) {
            count = other.count;
            marked = other.marked;
            System.arraycopy(other.cells, 0, cells, 0, Math.min(count, KEPT) * WIDTH);
        }
    }

    /** Presses bytes into a BLOCK of its own. */
    private static final class Presser {
        // More than 20,000, a power of two, so that a free slot is always near.
        private static final int SLOTS = 32_768;
        private static final int SPREAD = 0x9E3779B1;
        private static final int SPREAD_SHIFT = 15;

        private final Bytes block = new Bytes(OUT_ROOM);
        // A place + 1 for each four bytes that were met, the latest one; 0 is free.
        private final int[] slots = new int[SLOTS];
        private int slotMask = 0;

        void pressBlock(Bytes text, int from, int n) {
            block.shorten(0);
            putLength(n);
            freeSlots(n);
            int end = from + n;
            int told = from;
            for (int p = from; p + 4 <= end; p++) {
                // Places inside a COPY are noted too: a later COPY may begin there.
                int q = noteAndFind(text, p);
                if (q != NONE && p >= told) {
                    int alike = countAlike(text, q, p, end);
                    putLiteral(text, told, p - told);
                    putCopies(alike, p - q);
                    told = p + alike;
                }
            }
            putLiteral(text, told, end - told);
        }

        private void putLength(int n) {
            int left = n;
            // Five times seven bits are more than an int has.
            for (int k = 0; k < 5 && left > 127; k++) {
                block.put((left & 127) | 128);
                left >>>= 7;
            }
            block.put(left);
        }

        // Only as many slots as n bytes need, as a STREAM may have many small PIECES.
        private void freeSlots(int n) {
            int mask = 15;
            while (mask < n + n / 4 && mask < SLOTS - 1) {
                mask = 2 * mask + 1;
            }
            for (int slot = 0; slot <= mask; slot++) {
                slots[slot] = 0;
            }
            slotMask = mask;
        }

        /** The latest place noted with the same four bytes as p has, or NONE; p is noted in its stead. */
        private int noteAndFind(Bytes text, int p) {
            int four = text.fourFrom(p);
            int slot = ((four * SPREAD) >>> SPREAD_SHIFT) & slotMask;
            for (int k = 0; k <= slotMask; k++) {
                int q = slots[slot] - 1;
                if (q < 0 || text.fourFrom(q) == four) {
                    slots[slot] = p + 1;
                    return q;
                }
                slot = (slot + 1) & slotMask;
            }
            return NONE;
        }

        private static int countAlike(Bytes text, int q, int p, int end) {
            int alike = 0;
            while (p + alike < end && text.at(q + alike) == text.at(p + alike)) {
                alike++;
            }
            return alike;
        }

        private void putLiteral(Bytes text, int from, int k) {
            if (k <= 0) {
                return;
            }
            int u = k - 1;
            if (u < 60) {
                block.put((u << 2) | LITERAL);
            } else {
                // The TAPE's room keeps u below 65,536.
                int bytes = u < 256 ? 1 : 2;
                block.put(((59 + bytes) << 2) | LITERAL);
                block.putLowestFirst(u, bytes);
            }
            block.putAll(text, from, k);
        }

        private void putCopies(int k, int back) {
            int left = k;
            while (left >= 68) {
                putCopy(64, back);
                left -= 64;
            }
            // 60, not 64, so that at least four are left.
            if (left > 64) {
                putCopy(60, back);
                left -= 60;
            }
            if (left < 12 && back < 2048) {
                block.put(((back >> 8) << 5) | ((left - 4) << 2) | NEAR_COPY);
                block.put(back & 255);
            } else {
                putCopy(left, back);
            }
        }

        private void putCopy(int size, int back) {
            block.put(((size - 1) << 2) | COPY);
            block.putLowestFirst(back, 2);
        }
    }

    /** Makes a STREAM of bytes. */
    private static final class StreamMaker {
        private final Bytes made = new Bytes(OUT_ROOM);

        /** Whether there was room for all of it. */
        boolean makeStream(Bytes text, int piece, Presser presser) {
            made.shorten(0);
            putHeader(NAME_TYPE, NAME_BYTES);
            for (int b : NAME) {
                made.put(b);
            }
            int step = Math.max(piece, 1);
            for (int from = 0; from < text.count; from += step) {
                int n = Math.min(step, text.count - from);
                presser.pressBlock(text, from, n);
                if (!putPiece(text, from, n, presser.block)) {
                    return false;
                }
            }
            return true;
        }

        private boolean putPiece(Bytes text, int from, int n, Bytes block) {
            boolean pressed = block.count < n - n / 8;
            int size = SUM_BYTES + (pressed ? block.count : n);
            if (!made.hasRoomFor(HEADER_BYTES + size)) {
                return false;
            }
            putHeader(pressed ? PRESSED_TYPE : PLAIN_TYPE, size);
            made.putLowestFirst(text.maskedCrc(from, n), SUM_BYTES);
            if (pressed) {
                made.putAll(block, 0, block.count);
            } else {
                made.putAll(text, from, n);
            }
            return true;
        }

        private void putHeader(int type, int size) {
            made.put(type);
            made.putLowestFirst(size, HEADER_BYTES - 1);
        }
    }

    /** Opens a BLOCK up to its first fault. */
    private static final class BlockOpener {
        private final Bytes given = new Bytes(TAPE_ROOM);
        private final Rows elements = new Rows();
        private int fault = 0;
        private int place = NONE;
        private int start = 0;
        private int end = 0;
        private int next = 0;
        private int length = 0;
        // Of the ELEMENT whose TAG stands at next; four bytes may tell more than an int.
        private int sort = LITERAL;
        private int body = 0;
        private long size = 0;
        private long back = 0;

        void openBlock(Bytes text, int from, int n) {
            given.shorten(0);
            elements.clear();
            fault = 0;
            place = NONE;
            start = from;
            end = from + n;
            next = from;
            readLength(text);
            // An ELEMENT has a TAG at least, so there are no more of them than bytes.
            for (int k = 0; k < n && next < end && fault == 0; k++) {
                readElement(text);
                if (fault == 0) {
                    checkElement();
                }
                if (fault == 0) {
                    giveElement(text);
                }
            }
            if (fault == 0 && given.count < length) {
                fail(UNDER_FAULT, end);
            }
        }

        private void fail(int number, int textPlace) {
            fault = number;
            place = textPlace - start;
        }

        private void readLength(Bytes text) {
            long told = 0;
            boolean ended = false;
            for (int k = 0; k < 5 && next < end && !ended; k++) {
                int b = text.at(next);
                next++;
                told |= (long) (b & 127) << (7 * k);
                ended = b < 128;
            }
            if (!ended || told >= 1L << 32) {
                fail(LENGTH_FAULT, start);
            } else if (told > TAPE_ROOM) {
                fail(LENGTH_ROOM_FAULT, start);
            } else {
                length = (int) told;
            }
        }

        private void readElement(Bytes text) {
            int tag = text.at(next);
            int u = tag >> 2;
            sort = tag & 3;
            int more = bytesBehindTag(sort, u);
            body = next + 1 + more;
            if (body > end) {
                fail(ELEMENT_CUT_FAULT, next);
                return;
            }
            long told = text.lowestFirst(next + 1, more);
            size = sizeOf(sort, u, told);
            back = backOf(sort, u, told);
        }

        private static int bytesBehindTag(int sort, int u) {
            switch (sort) {
                case LITERAL:
                    return u < 60 ? 0 : u - 59;
                case NEAR_COPY:
                    return 1;
                case COPY:
                    return 2;
                default:
                    return 4;
            }
        }

        private static long sizeOf(int sort, int u, long told) {
            switch (sort) {
                case LITERAL:
                    return u < 60 ? u + 1 : told + 1;
                case NEAR_COPY:
                    return (u & 7) + 4;
                default:
                    return u + 1;
            }
        }

        private static long backOf(int sort, int u, long told) {
            switch (sort) {
                case LITERAL:
                    return 0;
                case NEAR_COPY:
                    return (u >> 3) * 256 + told;
                default:
                    return told;
            }
        }

        private void checkElement() {
            if (sort == LITERAL && size > end - body) {
                fail(ELEMENT_CUT_FAULT, next);
            } else if (sort != LITERAL && (back == 0 || back > given.count)) {
                fail(BACK_FAULT, next);
            } else if (size > length - given.count) {
                fail(OVER_FAULT, next);
            }
        }

        private void giveElement(Bytes text) {
            int n = (int) size;
            int distance = (int) back;
            elements.add(sort, next - start, n, distance, given.count, sort == LITERAL);
            if (sort == LITERAL) {
                given.putAll(text, body, n);
                next = body + n;
            } else {
                given.putOwn(given.count - distance, n);
                next = body;
            }
        }
    }

    /** Opens a STREAM up to its first fault. */
    private static final class StreamOpener {
        private final Bytes given = new Bytes(TAPE_ROOM);
        private final Rows chunks = new Rows();
        private int fault = 0;
        private int place = NONE;
        private int next = 0;
        // Of the CHUNK whose TYPE stands at next.
        private int type = NAME_TYPE;
        private int body = 0;
        private int size = 0;

        void openStream(Bytes text, BlockOpener blockOpener) {
            given.shorten(0);
            chunks.clear();
            fault = 0;
            place = NONE;
            next = 0;
            if (text.at(0) != NAME_TYPE) {
                fail(BEGIN_FAULT);
            }
            // A CHUNK has a header at least, so there are no more of them than bytes.
            for (int k = 0; k < text.count && next < text.count && fault == 0; k++) {
                int outPlace = given.count;
                readHeader(text);
                if (fault == 0) {
                    checkChunk(text);
                }
                if (fault == 0 && tellsBytes()) {
                    openBytes(text, blockOpener);
                }
                if (fault == 0) {
                    keepChunk(outPlace);
                }
            }
        }

        private void fail(int number) {
            fault = number;
            place = next;
        }

        private void readHeader(Bytes text) {
            body = next + HEADER_BYTES;
            if (body > text.count) {
                fail(CHUNK_CUT_FAULT);
                return;
            }
            type = text.at(next);
            size = (int) text.lowestFirst(next + 1, HEADER_BYTES - 1);
            if (size > text.count - body) {
                fail(CHUNK_CUT_FAULT);
            }
        }

        private boolean tellsBytes() {
            return type == PRESSED_TYPE || type == PLAIN_TYPE;
        }

        private void checkChunk(Bytes text) {
            if (type == NAME_TYPE) {
                if (!isName(text)) {
                    fail(NAME_FAULT);
                }
            } else if (tellsBytes()) {
                if (size < SUM_BYTES) {
                    fail(SHORT_FAULT);
                }
            } else if (type < FIRST_SKIPPED_TYPE) {
                fail(TYPE_FAULT);
            }
        }

        private boolean isName(Bytes text) {
            boolean same = size == NAME_BYTES;
            int i = body;
            for (int b : NAME) {
                same = same && text.at(i) == b;
                i++;
            }
            return same;
        }

        private void openBytes(Bytes text, BlockOpener blockOpener) {
            int from = body + SUM_BYTES;
            int n = size - SUM_BYTES;
            if (type == PLAIN_TYPE) {
                give(text, text, from, n);
                return;
            }
            blockOpener.openBlock(text, from, n);
            if (blockOpener.fault != 0) {
                fail(BLOCK_FAULT);
            } else {
                give(text, blockOpener.given, 0, blockOpener.given.count);
            }
        }

        private void give(Bytes text, Bytes bytes, int from, int n) {
            if (!given.hasRoomFor(n)) {
                fail(STREAM_ROOM_FAULT);
            } else if ((int) text.lowestFirst(body, SUM_BYTES) != bytes.maskedCrc(from, n)) {
                fail(SUM_FAULT);
            } else {
                given.putAll(bytes, from, n);
            }
        }

        private void keepChunk(int outPlace) {
            boolean skipped = type >= FIRST_SKIPPED_TYPE && type < NAME_TYPE;
            chunks.add(type, next, size, given.count - outPlace, outPlace, skipped);
            next = body + size;
        }
    }
}
