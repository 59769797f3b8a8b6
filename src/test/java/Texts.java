import java.util.zip.CRC32C;

/** Bytes for the tests: BLOCKS and CHUNKS made by hand, by the format's own words. */
final class Texts {
    static final int[] NAME = {255, 6, 0, 0, 's', 'N', 'a', 'P', 'p', 'Y'};

    private Texts() {
    }

    static int[] join(int[]... parts) {
        int n = 0;
        for (int[] part : parts) {
            n += part.length;
        }
        int[] all = new int[n];
        int at = 0;
        for (int[] part : parts) {
            System.arraycopy(part, 0, all, at, part.length);
            at += part.length;
        }
        return all;
    }

    static int[] bytes(int... bytes) {
        return bytes;
    }

    static int[] of(String text) {
        int[] bytes = new int[text.length()];
        for (int i = 0; i < bytes.length; i++) {
            bytes[i] = text.charAt(i);
        }
        return bytes;
    }

    static int[] same(int b, int n) {
        int[] bytes = new int[n];
        java.util.Arrays.fill(bytes, b);
        return bytes;
    }

    /** Bytes of which no four stand twice (up to 32,768 bytes): pairs that count upwards. */
    static int[] counting(int n) {
        int[] bytes = new int[n];
        for (int i = 0; i < n; i++) {
            int pair = i / 2;
            bytes[i] = i % 2 == 0 ? 128 | pair >> 7 : pair & 127;
        }
        return bytes;
    }

    /**
     * Bytes of which no four stand twice, too: threes of one byte, by turns of a round of 127 and of one of 128,
     * so that COPIES of three bytes tell them (762 and 768 back).
     */
    static int[] threes(int n) {
        int[] bytes = new int[n];
        for (int i = 0; i < n; i++) {
            int pair = i / 6;
            bytes[i] = i % 6 < 3 ? pair % 127 : 128 + pair % 128;
        }
        return bytes;
    }

    static int[] part(int[] bytes, int from, int to) {
        return java.util.Arrays.copyOfRange(bytes, from, to);
    }

    static int[] with(int[] bytes, int i, int b) {
        int[] changed = bytes.clone();
        changed[i] = b;
        return changed;
    }

    static int[] lowestFirst(long number, int n) {
        int[] bytes = new int[n];
        for (int k = 0; k < n; k++) {
            bytes[k] = (int) (number >> 8 * k & 255);
        }
        return bytes;
    }

    static int crc(int[] bytes) {
        CRC32C crc = new CRC32C();
        for (int b : bytes) {
            crc.update(b);
        }
        return (int) crc.getValue();
    }

    static int masked(int[] bytes) {
        int crc = crc(bytes);
        return (crc >>> 15 | crc << 17) + 0xA282EAD8;
    }

    /** The four bytes whose CRC-32C is this number: its 32 steps taken back. */
    static int[] withCrc(int crc) {
        int rest = ~crc;
        for (int bit = 0; bit < 32; bit++) {
            rest = rest < 0 ? (rest ^ 0x82F63B78) << 1 | 1 : rest << 1;
        }
        return lowestFirst(~rest & 0xFFFFFFFFL, 4);
    }

    /** The four bytes whose masked SUM is this number. */
    static int[] withMasked(int sum) {
        int turned = sum - 0xA282EAD8;
        return withCrc(turned >>> 17 | turned << 15);
    }

    /** A LENGTH in just so many bytes. */
    static int[] length(long number, int n) {
        int[] bytes = new int[n];
        for (int k = 0; k < n; k++) {
            bytes[k] = (int) (number >> 7 * k & 127) | (k < n - 1 ? 128 : 0);
        }
        return bytes;
    }

    static int[] chunk(int type, int[] behind) {
        return join(bytes(type), lowestFirst(behind.length, 3), behind);
    }

    static int[] sumOf(int[] bytes) {
        return lowestFirst(masked(bytes) & 0xFFFFFFFFL, 4);
    }

    static int[] plainChunk(int[] bytes) {
        return chunk(1, join(sumOf(bytes), bytes));
    }

    static int[] pressedChunk(int[] block, int[] told) {
        return chunk(0, join(sumOf(told), block));
    }

    /** A BLOCK of n times b (n from 129 to 16,383), by one LITERAL and COPIES of sort 2 alone. */
    static int[] blockOfSame(int b, int n) {
        int copies = (n - 1 + 63) / 64;
        int[] block = new int[4 + 3 * copies];
        block[0] = n & 127 | 128;
        block[1] = n >> 7;
        block[3] = b;
        int left = n - 1;
        for (int k = 0; k < copies; k++) {
            int size = Math.min(left, 64);
            block[4 + 3 * k] = size - 1 << 2 | 2;
            block[5 + 3 * k] = 1;
            left -= size;
        }
        return block;
    }
}
