import java.io.ByteArrayOutputStream;
import java.util.ArrayList;
import java.util.Arrays;
import java.util.List;
import java.util.Random;
import java.util.TreeSet;
import java.util.zip.CRC32;

/** Seeded runs of calls, whose answers are compared with those of a second, plain program of the document. */
public final class HalfJournalAgainstModel {
    private static final int RUNS = 4000;
    private static final int MAX_CALLS = 512;
    private static final int CALLS_TO_LOOK = 120;
    private static final int[] ODD_NUMBERS = {-1, 0, 1, 2, 31, 63, 64, 124, 125, 511, 512, 1000, 1001, 1 << 23, 1 << 29,
        -(1 << 29), Integer.MAX_VALUE, Integer.MIN_VALUE};

    private static int wrong = 0;

    private final Random random;
    private final long seed;
    private final HalfJournal journal = new HalfJournal();
    private final Model model = new Model();
    private final List<String> told = new ArrayList<>();
    private int calls = 0;
    private boolean right = true;

    private HalfJournalAgainstModel(long seed) {
        this.seed = seed;
        random = new Random(seed);
    }

    public static void main(String[] args) {
        int[] reached = new int[4];
        for (int i = 0; i < RUNS && wrong < 3; i++) {
            HalfJournalAgainstModel run = new HalfJournalAgainstModel(i);
            run.play();
            for (int k = 0; k < reached.length; k++) {
                reached[k] += run.model.reached[k] ? 1 : 0;
            }
        }
        for (int k = 0; k < reached.length && wrong == 0; k++) {
            if (reached[k] < RUNS / 100) {
                wrong++;
                System.out.println("too few runs came to case " + k + ": " + Arrays.toString(reached));
            }
        }
        System.out.println(wrong == 0 ? "the model answers alike" : wrong + " runs are not as due");
        if (wrong != 0) {
            System.exit(1);
        }
    }

    private void play() {
        if (random.nextInt(10) > 0) {
            call("format", 0, 0, 0);
        }
        if (random.nextInt(3) == 0) {
            fillUp();
        }
        while (right && calls < MAX_CALLS - CALLS_TO_LOOK) {
            step();
        }
        for (int which = -1; which < 10; which++) {
            call("look", which, 0, 0);
        }
        lookAtTouchedBlocks();
        while (right && calls < MAX_CALLS) {
            call("block", random.nextInt(64), random.nextInt(64), 0);
        }
    }

    private void lookAtTouchedBlocks() {
        Integer[] touched = model.touched.toArray(new Integer[0]);
        for (int i = 0; i < 80 && touched.length > 0; i++) {
            call("block", touched[random.nextInt(touched.length)], random.nextInt(64), 0);
        }
    }

    private void step() {
        switch (random.nextInt(24)) {
            case 0: case 1: case 2: case 3:
                giveAndAppend();
                break;
            case 4: case 5:
                call("mark", oneOf(model.records.size()), random.nextInt(4) > 0 ? 1 : 0, 0);
                break;
            case 6: case 7:
                call("compact", 0, 0, 0);
                break;
            case 8:
                call("crashIn", random.nextInt(5) > 0 ? random.nextInt(5) : odd(), 0, 0);
                break;
            case 9:
                call("crash", 0, 0, 0);
                break;
            case 10: case 11:
                call("recover", 0, 0, 0);
                break;
            case 12:
                spoilSome();
                break;
            case 13: case 14:
                call("length", oneOf(model.records.size()), 0, 0);
                break;
            case 15: case 16:
                call("record", oneOf(model.records.size()), oneOf(random.nextInt(4) > 0 ? 3 : 126), 0);
                break;
            case 17: case 18:
                call("block", oneOf(64), oneOf(64), 0);
                break;
            case 19: case 20:
                call("look", oneOf(9), 0, 0);
                break;
            case 21:
                call("give", random.nextLong(), oneOf(9), 0);
                break;
            case 22:
                call("append", 0, 0, 0);
                break;
            default:
                call(random.nextInt(4) == 0 ? "format" : "wipe", 0, 0, 0);
        }
    }

    private void giveAndAppend() {
        int gives = random.nextInt(12) == 0 ? 60 + random.nextInt(70) : 1 + random.nextInt(4);
        for (int i = 0; i < gives && calls < MAX_CALLS - CALLS_TO_LOOK; i++) {
            call("give", random.nextLong(), gives < 5 ? 1 + random.nextInt(8) : 8, 0);
        }
        call("append", 0, 0, 0);
    }

    /** Puts a HEAD and long records on the disk by spoil, so that a HALF becomes nearly full in few calls. */
    private void fillUp() {
        call("crash", 0, 0, 0);
        int half = random.nextInt(2);
        int generation = random.nextInt(3) == 0 ? Integer.MAX_VALUE - random.nextInt(2) : 1 + random.nextInt(6);
        spoilBytes(random.nextInt(2) * 512, Model.headBytes(generation, half), false);
        int from = (half == 0 ? 2 : 33) * 512;
        int at = 0;
        for (int i = 0; i < 16; i++) {
            int length = i < 15 ? 1000 - random.nextInt(2) : Math.max(1, 15872 - at - 6 - random.nextInt(24));
            length = Math.min(length, 1000);
            byte[] bytes = Model.recordBytes(new byte[length]);
            spoilBytes(from + at, bytes, true);
            at += bytes.length;
        }
        call("recover", 0, 0, 0);
    }

    private void spoilBytes(int from, byte[] bytes, boolean onZeros) {
        for (int i = 0; i < bytes.length; i++) {
            int at = from + i;
            if (!onZeros || bytes[i] != 0) {
                call("spoil", at / 512, at % 512, bytes[i]);
            }
        }
    }

    private void spoilSome() {
        if (random.nextInt(2) == 0) {
            call("crash", 0, 0, 0);
        }
        int kind = random.nextInt(6);
        if (kind == 0) {
            call("spoil", random.nextInt(2), random.nextInt(14), random.nextInt());
        } else if (kind == 1) {
            int generation = random.nextInt(8) - 1;
            int half = random.nextInt(8) == 0 ? 2 : random.nextInt(2);
            spoilBytes(random.nextInt(2) * 512, Model.headBytes(generation, half), false);
        } else if (kind == 2) {
            call("spoil", oneOf(64), oneOf(512), random.nextInt());
        } else if (kind == 3) {
            call("spoil", random.nextInt(2) * 31 + 2, random.nextInt(120), random.nextInt());
        } else {
            spoilOddBytes(random.nextInt(2));
        }
        if (random.nextInt(2) == 0) {
            call("recover", 0, 0, 0);
        }
    }

    private void spoilOddBytes(int half) {
        int at = 0;
        for (byte[] bytes : model.read(half)) {
            at += Model.recordBytes(bytes).length;
            if (bytes.length % 2 == 1 && random.nextInt(2) == 0) {
                int place = (half == 0 ? 2 : 33) * 512 + at - 1;
                call("spoil", place / 512, place % 512, random.nextInt());
            }
        }
    }

    private int odd() {
        return ODD_NUMBERS[random.nextInt(ODD_NUMBERS.length)];
    }

    private int oneOf(int n) {
        return random.nextInt(12) == 0 || n == 0 ? odd() : random.nextInt(n);
    }

    private void call(String name, long a, int b, int c) {
        if (!right || calls >= MAX_CALLS) {
            return;
        }
        calls++;
        String want = model.answer(name, a, b, c);
        String got = answerOfJournal(name, a, b, c);
        told.add(name + "(" + a + ", " + b + ", " + c + ") " + got);
        if (!got.equals(want)) {
            right = false;
            wrong++;
            System.out.println("run " + seed + ", call " + calls + ", due is " + want + ", behind:");
            for (String line : told.subList(Math.max(0, told.size() - 12), told.size())) {
                System.out.println("  " + line);
            }
        }
    }

    private String answerOfJournal(String name, long a, int b, int c) {
        try {
            switch (name) {
                case "format": journal.format(); return "";
                case "give": return "" + journal.give(a, b);
                case "wipe": journal.wipe(); return "";
                case "append": return "" + journal.append();
                case "mark": return "" + journal.mark((int) a, b == 1);
                case "compact": return "" + journal.compact();
                case "crashIn": return "" + journal.crashIn((int) a);
                case "crash": journal.crash(); return "";
                case "recover": return "" + journal.recover();
                case "spoil": return "" + journal.spoil((int) a, b, c);
                case "length": return "" + journal.length((int) a);
                case "record": return "" + journal.record((int) a, b);
                case "block": return "" + journal.block((int) a, b);
                default: return "" + journal.look((int) a);
            }
        } catch (RuntimeException e) {
            return e.getClass().getSimpleName();
        }
    }

    /** The document's sentences one by one, with no thought of speed or room. */
    private static final class Model {
        private final byte[][] disk = new byte[64][512];
        private final TreeSet<Integer> touched = new TreeSet<>();
        private final boolean[] reached = new boolean[4];
        private final TreeSet<Integer> marked = new TreeSet<>();
        private List<byte[]> records = new ArrayList<>();
        private byte[] tape = new byte[0];
        private int state = 1;
        private int generation = 0;
        private int half = 0;
        private int due = -1;
        private int written = 0;

        private String answer(String name, long a, int b, int c) {
            switch (name) {
                case "format": return format();
                case "give": return give(a, b);
                case "wipe": tape = new byte[0]; return "";
                case "append": return append();
                case "mark": return mark((int) a, b == 1);
                case "compact": return compact();
                case "crashIn": return crashIn((int) a);
                case "crash": down(0); return "";
                case "recover": return recover();
                case "spoil": return spoil((int) a, b, c);
                case "length": return "" + (hasRecord((int) a) ? records.get((int) a).length : -1);
                case "record": return "" + (hasRecord((int) a) ? word(records.get((int) a), b) : 0);
                case "block": return "" + (a >= 0 && a < 64 ? word(disk[(int) a], b) : 0);
                default: return "" + look((int) a);
            }
        }

        private String format() {
            for (int b = 0; b < 64; b++) {
                disk[b] = new byte[512];
            }
            disk[1] = Arrays.copyOf(headBytes(1, 0), 512);
            due = -1;
            recover();
            return "";
        }

        private String give(long v, int n) {
            if (n < 1 || n > 8 || tape.length + n > 1000) {
                return "false";
            }
            int before = tape.length;
            tape = Arrays.copyOf(tape, before + n);
            for (int i = 0; i < n; i++) {
                tape[before + i] = (byte) (v >> 8 * (n - 1 - i));
            }
            return "true";
        }

        private String append() {
            if (state != 2) {
                return "IllegalStateException";
            }
            if (tape.length == 0) {
                return "IllegalArgumentException";
            }
            byte[] bytes = recordBytes(tape);
            int used = used();
            if (used + bytes.length > 15872) {
                reached[0] = true;
                return "UnsupportedOperationException";
            }
            reached[1] |= used + bytes.length == 15872;
            byte[] image = new byte[15872 + 2];
            for (int at = 0; at < used; at++) {
                image[at] = disk[2 + 31 * half + at / 512][at % 512];
            }
            System.arraycopy(bytes, 0, image, used, bytes.length);
            int end = Math.min(used + bytes.length + 2, 15872);
            tape = new byte[0];
            for (int b = 30; b >= 0; b--) {
                boolean liesIn = b * 512 < end && (b + 1) * 512 > used;
                if (liesIn && !write(2 + 31 * half + b, Arrays.copyOfRange(image, b * 512, b * 512 + 512))) {
                    return "-1";
                }
            }
            records = read(half);
            return "" + (records.size() - 1);
        }

        private String mark(int i, boolean is) {
            if (!hasRecord(i)) {
                return "false";
            }
            if (is) {
                marked.add(i);
            } else {
                marked.remove(i);
            }
            return "true";
        }

        private String compact() {
            if (state != 2) {
                return "IllegalStateException";
            }
            if (generation == Integer.MAX_VALUE) {
                reached[2] = true;
                return "UnsupportedOperationException";
            }
            ByteArrayOutputStream kept = new ByteArrayOutputStream();
            for (int i = 0; i < records.size(); i++) {
                if (!marked.contains(i)) {
                    kept.writeBytes(recordBytes(records.get(i)));
                }
            }
            reached[3] |= kept.size() > 15000;
            int end = Math.min(kept.size() + 2, 15872);
            byte[] image = Arrays.copyOf(kept.toByteArray(), 15872);
            int nextGeneration = generation + 1;
            int otherHalf = half == 0 ? 1 : 0;
            for (int b = 0; b * 512 < end; b++) {
                if (!write((otherHalf == 0 ? 2 : 33) + b, Arrays.copyOfRange(image, b * 512, b * 512 + 512))) {
                    return "-1";
                }
            }
            if (!write(nextGeneration % 2, Arrays.copyOf(headBytes(nextGeneration, otherHalf), 512))) {
                return "-1";
            }
            int dueYet = due;
            String answer = recover();
            due = dueYet;
            return answer;
        }

        private boolean write(int b, byte[] bytes) {
            if (due == 0) {
                due = -1;
                down(0);
                return false;
            }
            if (due > 0) {
                due--;
            }
            written++;
            disk[b] = bytes;
            touched.add(b);
            return true;
        }

        private String crashIn(int n) {
            if (n > 1000) {
                return "false";
            }
            due = Math.max(n, -1);
            return "true";
        }

        private void down(int newState) {
            state = newState;
            generation = 0;
            half = 0;
            records = new ArrayList<>();
            marked.clear();
        }

        private String recover() {
            down(1);
            due = -1;
            for (int b = 0; b < 2; b++) {
                byte[] head = Arrays.copyOf(disk[b], 12);
                int itsGeneration = head[4] & 255 | (head[5] & 255) << 8 | (head[6] & 255) << 16 | head[7] << 24;
                boolean isRight = (head[2] == 0 || head[2] == 1) && itsGeneration >= 1
                    && Arrays.equals(head, headBytes(itsGeneration, head[2]));
                if (isRight && itsGeneration > generation) {
                    state = 2;
                    generation = itsGeneration;
                    half = head[2];
                }
            }
            if (state == 1) {
                return "-1";
            }
            records = read(half);
            return "" + records.size();
        }

        private List<byte[]> read(int ofHalf) {
            byte[] all = new byte[15872];
            for (int b = 0; b < 31; b++) {
                System.arraycopy(disk[(ofHalf == 0 ? 2 : 33) + b], 0, all, b * 512, 512);
            }
            List<byte[]> found = new ArrayList<>();
            int at = 0;
            while (at + 2 <= all.length) {
                int length = all[at] & 255 | (all[at + 1] & 255) << 8;
                if (length < 1 || length > 1000 || at + 6 + length > all.length) {
                    break;
                }
                byte[] content = Arrays.copyOfRange(all, at + 2, at + 2 + length);
                byte[] bytes = recordBytes(content);
                if (!Arrays.equals(Arrays.copyOf(bytes, 6 + length), Arrays.copyOfRange(all, at, at + 6 + length))) {
                    break;
                }
                found.add(content);
                at += bytes.length;
            }
            return found;
        }

        private String spoil(int b, int k, int v) {
            if (state == 2 || b < 0 || b > 63 || k < 0 || k > 511) {
                return "false";
            }
            disk[b][k] = (byte) v;
            touched.add(b);
            return "true";
        }

        private boolean hasRecord(int i) {
            return i >= 0 && i < records.size();
        }

        private int used() {
            int used = 0;
            for (byte[] content : records) {
                used += recordBytes(content).length;
            }
            return used;
        }

        private int look(int which) {
            int[] all = {records.size(), used(), generation, half, state, written, tape.length, due, marked.size()};
            return which >= 0 && which < all.length ? all[which] : -1;
        }

        private static long word(byte[] bytes, long k) {
            long v = 0;
            for (long at = 8 * k; at < 8 * k + 8; at++) {
                v = v * 256 + (at >= 0 && at < bytes.length ? bytes[(int) at] & 255 : 0);
            }
            return v;
        }

        private static byte[] headBytes(int ofGeneration, int ofHalf) {
            byte[] head = new byte[8];
            head[0] = 74;
            head[1] = 49;
            head[2] = (byte) ofHalf;
            for (int i = 0; i < 4; i++) {
                head[4 + i] = (byte) (ofGeneration >> 8 * i);
            }
            return withCheck(head);
        }

        private static byte[] recordBytes(byte[] content) {
            byte[] bytes = new byte[2 + content.length];
            bytes[0] = (byte) (content.length % 256);
            bytes[1] = (byte) (content.length / 256);
            System.arraycopy(content, 0, bytes, 2, content.length);
            byte[] all = withCheck(bytes);
            return Arrays.copyOf(all, all.length + content.length % 2);
        }

        private static byte[] withCheck(byte[] bytes) {
            CRC32 crc = new CRC32();
            crc.update(bytes);
            byte[] all = Arrays.copyOf(bytes, bytes.length + 4);
            for (int i = 0; i < 4; i++) {
                all[bytes.length + i] = (byte) (crc.getValue() >> 8 * i);
            }
            return all;
        }
    }
}
