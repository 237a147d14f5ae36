import java.util.Arrays;

/**
 * A journal of records on a disk of blocks, of which any write can be the last one ahead of a crash.
 * The words in capitals are those of the document (DOC.md).
 */
public final class HalfJournal {
    public static final int NONE = -1;

    private static final int BLOCK_COUNT = 64;
    private static final int BLOCK_BYTES = 512;
    private static final int DISK_BYTES = BLOCK_COUNT * BLOCK_BYTES;
    private static final int HEAD_BLOCKS = 2;
    private static final int HALF_BLOCKS = 31;
    private static final int HALF_BYTES = HALF_BLOCKS * BLOCK_BYTES;

    private static final int HEAD_FIRST = 74;
    private static final int HEAD_SECOND = 49;
    private static final int HEAD_CHECKED = 8;
    private static final int MAX_GENERATION = 2147483647;

    private static final int LENGTH_BYTES = 2;
    private static final int CHECK_BYTES = 4;
    private static final int END_BYTES = 2;
    private static final int MAX_LENGTH = 1000;
    private static final int LEAST_SIZE = 8;
    private static final int MAX_RECORDS = HALF_BYTES / LEAST_SIZE;

    private static final int WORD_BYTES = 8;
    private static final int MAX_CRASH_IN = 1000;

    private static final int DOWN = 0;
    private static final int EMPTY = 1;
    private static final int UP = 2;

    // What the document's shift makes of each low half of a byte in four steps:
    // two looks a byte, where the steps one by one would make recover slow.
    private static final int[] CHECK_STEPS = {
        0x00000000, 0x1DB71064, 0x3B6E20C8, 0x26D930AC,
        0x76DC4190, 0x6B6B51F4, 0x4DB26158, 0x5005713C,
        0xEDB88320, 0xF00F9344, 0xD6D6A3E8, 0xCB61B38C,
        0x9B64C2B0, 0x86D3D2D4, 0xA00AE278, 0xBDBDF21C
    };

    private final Disk disk;
    private final Records records;
    private final byte[] tape;
    // What a HALF or a HEAD's block is to become; it reaches the disk by WRITES alone.
    private final byte[] plan;
    private int taped;
    private int state;
    private int generation;
    private int half;

    public HalfJournal() {
        disk = new Disk();
        records = new Records();
        tape = new byte[MAX_LENGTH];
        plan = new byte[HALF_BYTES];
        taped = 0;
        state = EMPTY;
        generation = 0;
        half = 0;
    }

    public void format() {
        clearBytes(disk.bytes, 0, DISK_BYTES);
        putHead(disk.bytes, BLOCK_BYTES, 1, 0);
        disk.due = NONE;
        goUp(1, 0);
    }

    public boolean give(long v, int n) {
        if (n < 1 || n > WORD_BYTES || n > tape.length - taped) {
            return false;
        }
        for (int left = n - 1; left >= 0; left--) {
            tape[taped] = (byte) (v >>> (8 * left));
            taped++;
        }
        return true;
    }

    public void wipe() {
        taped = 0;
    }

    public int append() throws IllegalStateException, IllegalArgumentException, UnsupportedOperationException {
        if (state != UP) {
            throw new IllegalStateException("the journal is not up");
        }
        if (taped == 0) {
            throw new IllegalArgumentException("the tape is empty");
        }
        if (sizeOf(taped) > HALF_BYTES - records.used) {
            throw new UnsupportedOperationException("the half has no room for the record");
        }
        int length = taped;
        int first = records.used / BLOCK_BYTES;
        int last = lastBlockOf(records.used + sizeOf(length));
        planTape(first, last);
        taped = 0;
        if (!writeLastFirst(first, last)) {
            leave(DOWN);
            return NONE;
        }
        records.add(length);
        return records.count - 1;
    }

    public boolean mark(int i, boolean is) {
        if (!records.has(i)) {
            return false;
        }
        records.setMark(i, is);
        return true;
    }

    public int compact() throws IllegalStateException, UnsupportedOperationException {
        if (state != UP) {
            throw new IllegalStateException("the journal is not up");
        }
        if (generation == MAX_GENERATION) {
            throw new UnsupportedOperationException("there is no greater generation");
        }
        int nextGeneration = generation + 1;
        int otherHalf = 1 - half;
        int last = lastBlockOf(planUnmarked());
        if (!writeFirstFirst(otherHalf, last) || !writeHead(nextGeneration, otherHalf)) {
            leave(DOWN);
            return NONE;
        }
        goUp(nextGeneration, otherHalf);
        return records.count;
    }

    public boolean crashIn(int n) {
        if (n > MAX_CRASH_IN) {
            return false;
        }
        disk.due = n < 0 ? NONE : n;
        return true;
    }

    public void crash() {
        leave(DOWN);
    }

    public int recover() {
        disk.due = NONE;
        int first = generationOfHead(0);
        int second = generationOfHead(1);
        if (first == 0 && second == 0) {
            leave(EMPTY);
            return NONE;
        }
        if (first >= second) {
            goUp(first, halfOfHead(0));
        } else {
            goUp(second, halfOfHead(1));
        }
        return records.count;
    }

    public boolean spoil(int b, int k, int v) {
        if (state == UP || !isBlock(b) || k < 0 || k >= BLOCK_BYTES) {
            return false;
        }
        disk.bytes[b * BLOCK_BYTES + k] = (byte) v;
        return true;
    }

    public int length(int i) {
        return records.has(i) ? records.lengths[i] : NONE;
    }

    public long record(int i, int k) {
        // k is tested ahead of 8 * k, which could come round to a small number again.
        if (!records.has(i) || k < 0 || k >= MAX_LENGTH / WORD_BYTES) {
            return 0;
        }
        int from = firstByteOf(half) + records.starts[i] + LENGTH_BYTES;
        return word(disk.bytes, from + WORD_BYTES * k, from + records.lengths[i]);
    }

    public long block(int b, int k) {
        if (!isBlock(b) || k < 0 || k >= BLOCK_BYTES / WORD_BYTES) {
            return 0;
        }
        return word(disk.bytes, b * BLOCK_BYTES + WORD_BYTES * k, DISK_BYTES);
    }

    public int look(int which) {
        switch (which) {
            case 0: return records.count;
            case 1: return records.used;
            case 2: return generation;
            case 3: return half;
            case 4: return state;
            case 5: return disk.written;
            case 6: return taped;
            case 7: return disk.due;
            case 8: return records.marked;
            default: return NONE;
        }
    }

    private void leave(int newState) {
        state = newState;
        generation = 0;
        half = 0;
        records.clear();
    }

    private void goUp(int newGeneration, int newHalf) {
        state = UP;
        generation = newGeneration;
        half = newHalf;
        readRecords();
    }

    private void readRecords() {
        records.clear();
        for (int i = 0; i < MAX_RECORDS; i++) {
            int length = lengthOfRecordAt(records.used);
            if (length == 0) {
                break;
            }
            records.add(length);
        }
    }

    /** The LENGTH of the RECORD at that byte of the HALF; 0 if there is none such. */
    private int lengthOfRecordAt(int at) {
        if (at > HALF_BYTES - LENGTH_BYTES) {
            return 0;
        }
        int from = firstByteOf(half) + at;
        int length = number(disk.bytes, from, LENGTH_BYTES);
        if (length < 1 || length > MAX_LENGTH || sizeOf(length) > HALF_BYTES - at) {
            return 0;
        }
        int checked = LENGTH_BYTES + length;
        boolean right = number(disk.bytes, from + checked, CHECK_BYTES) == checkOf(disk.bytes, from, checked);
        return right ? length : 0;
    }

    /** The GENERATION of the HEAD in that block; 0 if it is not RIGHT. */
    private int generationOfHead(int b) {
        int at = b * BLOCK_BYTES;
        int begin = number(disk.bytes, at, 4);
        if (begin != headBegin(0) && begin != headBegin(1)) {
            return 0;
        }
        if (number(disk.bytes, at + HEAD_CHECKED, CHECK_BYTES) != checkOf(disk.bytes, at, HEAD_CHECKED)) {
            return 0;
        }
        return Math.max(number(disk.bytes, at + 4, 4), 0);
    }

    private int halfOfHead(int b) {
        return number(disk.bytes, b * BLOCK_BYTES + 2, 1);
    }

    /** Plans the blocks first .. last of the HALF with the TAPE's record behind what is USED. */
    private void planTape(int first, int last) {
        int from = first * BLOCK_BYTES;
        int at = records.used;
        copyBytes(disk.bytes, firstByteOf(half) + from, plan, from, at - from);
        clearBytes(plan, at, (last + 1) * BLOCK_BYTES);
        putNumber(plan, at, LENGTH_BYTES, taped);
        copyBytes(tape, 0, plan, at + LENGTH_BYTES, taped);
        int checked = LENGTH_BYTES + taped;
        putNumber(plan, at + checked, CHECK_BYTES, checkOf(plan, at, checked));
    }

    /** Plans a HALF with the records that are not marked: how many bytes they have. */
    private int planUnmarked() {
        clearBytes(plan, 0, HALF_BYTES);
        int end = 0;
        for (int i = 0; i < records.count; i++) {
            if (!records.marks[i]) {
                // The byte behind an odd record may have been spoiled: it is not copied, so it is 0 again.
                int bytes = LENGTH_BYTES + records.lengths[i] + CHECK_BYTES;
                copyBytes(disk.bytes, firstByteOf(half) + records.starts[i], plan, end, bytes);
                end += sizeOf(records.lengths[i]);
            }
        }
        return end;
    }

    /** WRITES planned blocks; false if it came to a CRASH. */
    private boolean writeLastFirst(int first, int last) {
        for (int b = last; b >= first; b--) {
            if (!disk.write(firstBlockOf(half) + b, plan, b * BLOCK_BYTES)) {
                return false;
            }
        }
        return true;
    }

    /** WRITES planned blocks from the HALF's first one on; false if it came to a CRASH. */
    private boolean writeFirstFirst(int toHalf, int last) {
        for (int b = 0; b <= last; b++) {
            if (!disk.write(firstBlockOf(toHalf) + b, plan, b * BLOCK_BYTES)) {
                return false;
            }
        }
        return true;
    }

    private boolean writeHead(int ofGeneration, int ofHalf) {
        clearBytes(plan, 0, BLOCK_BYTES);
        putHead(plan, 0, ofGeneration, ofHalf);
        return disk.write(ofGeneration & 1, plan, 0);
    }

    private static void putHead(byte[] to, int at, int ofGeneration, int ofHalf) {
        putNumber(to, at, 4, headBegin(ofHalf));
        putNumber(to, at + 4, 4, ofGeneration);
        putNumber(to, at + HEAD_CHECKED, CHECK_BYTES, checkOf(to, at, HEAD_CHECKED));
    }

    private static int headBegin(int ofHalf) {
        return HEAD_FIRST | HEAD_SECOND << 8 | ofHalf << 16;
    }

    private static boolean isBlock(int b) {
        return b >= 0 && b < BLOCK_COUNT;
    }

    private static int firstBlockOf(int ofHalf) {
        return HEAD_BLOCKS + ofHalf * HALF_BLOCKS;
    }

    private static int firstByteOf(int ofHalf) {
        return firstBlockOf(ofHalf) * BLOCK_BYTES;
    }

    /** The HALF's block with the last of the two bytes 0 behind records that end there, as far as the HALF goes. */
    private static int lastBlockOf(int end) {
        return (Math.min(end + END_BYTES, HALF_BYTES) - 1) / BLOCK_BYTES;
    }

    /** How many bytes a record takes in the HALF. */
    private static int sizeOf(int length) {
        return LENGTH_BYTES + length + CHECK_BYTES + (length & 1);
    }

    private static boolean hasBytes(byte[] bytes, int from, int n) {
        return from >= 0 && n >= 0 && n <= bytes.length - from;
    }

    private static void copyBytes(byte[] source, int from, byte[] target, int to, int n) {
        if (hasBytes(source, from, n) && hasBytes(target, to, n)) {
            System.arraycopy(source, from, target, to, n);
        }
    }

    private static void clearBytes(byte[] bytes, int from, int end) {
        if (hasBytes(bytes, from, end - from)) {
            Arrays.fill(bytes, from, end, (byte) 0);
        }
    }

    private static int checkOf(byte[] bytes, int from, int n) {
        if (!hasBytes(bytes, from, n)) {
            return 0;
        }
        int c = -1;
        for (int at = from; at < from + n; at++) {
            c ^= bytes[at] & 255;
            c = c >>> 4 ^ CHECK_STEPS[c & 15];
            c = c >>> 4 ^ CHECK_STEPS[c & 15];
        }
        return ~c;
    }

    /** The number of n bytes there, the lowest first. */
    private static int number(byte[] bytes, int from, int n) {
        if (!hasBytes(bytes, from, n)) {
            return 0;
        }
        int v = 0;
        for (int i = n - 1; i >= 0; i--) {
            v = v << 8 | bytes[from + i] & 255;
        }
        return v;
    }

    private static void putNumber(byte[] bytes, int from, int n, int v) {
        if (!hasBytes(bytes, from, n)) {
            return;
        }
        for (int i = 0; i < n; i++) {
            bytes[from + i] = (byte) (v >>> (8 * i));
        }
    }

    /** Eight bytes, the first one highest; those from end on count 0. */
    private static long word(byte[] bytes, int from, int end) {
        long v = 0;
        for (int at = from; at < from + WORD_BYTES; at++) {
            boolean there = at >= 0 && at < end && at < bytes.length;
            v = v << 8 | (there ? bytes[at] & 255 : 0);
        }
        return v;
    }

    /** The BLOCKS, and the CRASH that one of their writes may come to. */
    private static final class Disk {
        private final byte[] bytes = new byte[DISK_BYTES];
        private int due = NONE;
        private int written = 0;

        /** WRITES a block; false if it came to the CRASH. */
        private boolean write(int b, byte[] from, int at) {
            if (due == 0) {
                due = NONE;
                return false;
            }
            if (due > 0) {
                due--;
            }
            copyBytes(from, at, bytes, b * BLOCK_BYTES, BLOCK_BYTES);
            written++;
            return true;
        }
    }

    /** Where the journal's RECORDS lie in its HALF, and which of them are marked. */
    private static final class Records {
        private final int[] starts = new int[MAX_RECORDS];
        private final int[] lengths = new int[MAX_RECORDS];
        private final boolean[] marks = new boolean[MAX_RECORDS];
        private int count = 0;
        private int used = 0;
        private int marked = 0;

        private boolean has(int i) {
            return i >= 0 && i < count;
        }

        private void clear() {
            count = 0;
            used = 0;
            marked = 0;
        }

        private void add(int length) {
            if (count >= MAX_RECORDS) {
                return;
            }
            starts[count] = used;
            lengths[count] = length;
            marks[count] = false;
            count++;
            used += sizeOf(length);
        }

        private void setMark(int i, boolean is) {
            if (has(i) && marks[i] != is) {
                marks[i] = is;
                marked += is ? 1 : -1;
            }
        }
    }
}
