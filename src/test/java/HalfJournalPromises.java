import java.lang.reflect.Constructor;
import java.lang.reflect.Field;
import java.lang.reflect.Method;
import java.lang.reflect.Modifier;
import java.util.Arrays;
import java.util.List;
import java.util.TreeSet;
import java.util.zip.CRC32;

/** The promises of the document, one after the other: ordinary inputs, the edges and wrong inputs. */
public final class HalfJournalPromises {
    private static final int RECORDS = 0;
    private static final int USED = 1;
    private static final int GENERATION = 2;
    private static final int HALF = 3;
    private static final int STATE = 4;
    private static final int WRITTEN = 5;
    private static final int TAPE = 6;
    private static final int DUE = 7;
    private static final int MARKED = 8;
    private static final int DOWN = 0;
    private static final int EMPTY = 1;
    private static final int UP = 2;
    private static final int ILLEGAL_STATE = -1001;
    private static final int ILLEGAL_ARGUMENT = -1002;
    private static final int UNSUPPORTED = -1003;
    private static final int OTHER = -1004;

    private static int wrong = 0;
    private static String part = "";

    public static void main(String[] args) {
        face();
        newObject();
        format();
        formatOfAUsedDisk();
        give();
        wipe();
        append();
        appendThrows();
        appendPlacesBlocks();
        appendFillsTheHalf();
        appendCrashes();
        appendKeepsWhatIsUsed();
        mark();
        compact();
        compactThrows();
        compactPlacesBlocks();
        compactCrashes();
        compactMovesTheHead();
        compactMendsTheOddByte();
        crashIn();
        crash();
        recoverHeads();
        recoverRecords();
        recoverEndOfHalf();
        recoverForgets();
        spoil();
        length();
        record();
        block();
        look();
        System.out.println(wrong == 0 ? "all promises hold" : wrong + " answers are not as due");
        if (wrong != 0) {
            System.exit(1);
        }
    }

    // ---- the face

    private static void face() {
        part = "face";
        TreeSet<String> members = new TreeSet<>();
        for (Method m : HalfJournal.class.getDeclaredMethods()) {
            if (!Modifier.isPrivate(m.getModifiers()) && !m.isSynthetic()) {
                members.add(m.toString().replace("HalfJournal.", "").replace("java.lang.", ""));
            }
        }
        for (Field f : HalfJournal.class.getDeclaredFields()) {
            if (!Modifier.isPrivate(f.getModifiers())) {
                members.add(f.toString().replace("HalfJournal.", ""));
            }
        }
        for (Constructor<?> c : HalfJournal.class.getDeclaredConstructors()) {
            members.add(c.toString());
        }
        List<String> face = Arrays.asList(
            "public HalfJournal()", "public static final int NONE", "public void format()",
            "public boolean give(long,int)", "public void wipe()",
            "public int append() throws IllegalStateException,IllegalArgumentException,UnsupportedOperationException",
            "public boolean mark(int,boolean)",
            "public int compact() throws IllegalStateException,UnsupportedOperationException",
            "public boolean crashIn(int)", "public void crash()", "public int recover()",
            "public boolean spoil(int,int,int)", "public int length(int)", "public long record(int,int)",
            "public long block(int,int)", "public int look(int)");
        due("members " + members, members.equals(new TreeSet<>(face)), true);
        due("final", Modifier.isFinal(HalfJournal.class.getModifiers()), true);
        due("NONE", HalfJournal.NONE, -1);
    }

    // ---- promise 1

    private static void newObject() {
        part = "1 new object";
        HalfJournal x = new HalfJournal();
        dueLooks(x, 0, 0, 0, 0, EMPTY, 0, 0, -1, 0);
        for (int b = 0; b < 64; b++) {
            due("first word of block " + b, x.block(b, 0), 0);
            due("last word of block " + b, x.block(b, 63), 0);
        }
        due("recover", x.recover(), -1);
        due("state", x.look(STATE), EMPTY);
    }

    // ---- promise 2

    private static void format() {
        part = "2 format";
        HalfJournal x = new HalfJournal();
        x.give(1, 3);
        x.crashIn(5);
        x.format();
        dueLooks(x, 0, 0, 1, 0, UP, 0, 3, -1, 0);
        dueHead(x, 1, 1, 0);
        for (int k = 2; k < 64; k++) {
            due("block 1 behind the head, word " + k, x.block(1, k), 0);
        }
        due("block 0", x.block(0, 0), 0);
        due("block 2", x.block(2, 0), 0);
        due("recover", x.recover(), 0);
        dueLooks(x, 0, 0, 1, 0, UP, 0, 3, -1, 0);
    }

    private static void formatOfAUsedDisk() {
        part = "2 format of a used disk";
        HalfJournal x = formatted();
        put(x, 600, 1);
        put(x, 1, 2);
        x.mark(0, true);
        x.compact();
        x.mark(0, true);
        long written = x.look(WRITTEN);
        x.crashIn(0);
        x.format();
        dueLooks(x, 0, 0, 1, 0, UP, written, 0, -1, 0);
        due("no record", x.length(0), -1);
        for (int b = 0; b < 64; b++) {
            due("block " + b, x.block(b, 0) == 0, b != 1);
        }
        due("block 3", x.block(3, 5), 0);
        x.crash();
        x.spoil(63, 511, 7);
        x.spoil(1, 100, 7);
        x.format();
        due("end of the disk", x.block(63, 63), 0);
        due("behind the head", x.block(1, 12), 0);
        due("up from down", x.look(STATE), UP);
    }

    // ---- promises 3 and 4

    private static void give() {
        part = "3 give";
        HalfJournal x = formatted();
        due("n 0", x.give(1, 0), false);
        due("n -1", x.give(1, -1), false);
        due("n 9", x.give(1, 9), false);
        due("n least", x.give(1, Integer.MIN_VALUE), false);
        due("n greatest", x.give(1, Integer.MAX_VALUE), false);
        due("tape", x.look(TAPE), 0);
        due("n 1", x.give(0x1122334455667788L, 1), true);
        due("n 3", x.give(0x1122334455667788L, 3), true);
        due("n 8", x.give(0xF122334455667788L, 8), true);
        due("tape", x.look(TAPE), 12);
        x.append();
        due("bytes", x.record(0, 0), 0x88667788F1223344L);
        due("bytes", x.record(0, 1), 0x5566778800000000L);
        for (int i = 0; i < 124; i++) {
            due("a long tape", x.give(i, 8), true);
        }
        due("n 8 at 992", x.give(7, 1), true);
        due("n 8 at 993", x.give(7, 8), false);
        due("tape", x.look(TAPE), 993);
        due("n 7 at 993", x.give(-1, 7), true);
        due("n 1 at 1000", x.give(1, 1), false);
        due("tape", x.look(TAPE), 1000);
        due("append", x.append(), 1);
        due("length", x.length(1), 1000);
        due("the last bytes", x.record(1, 124), 0x07FFFFFFFFFFFFFFL);
        HalfJournal y = new HalfJournal();
        due("while empty", y.give(1, 1), true);
        y.crash();
        due("while down", y.give(1, 1), true);
        due("tape", y.look(TAPE), 2);
    }

    private static void wipe() {
        part = "4 wipe";
        HalfJournal x = formatted();
        x.give(0x0102030405060708L, 8);
        x.wipe();
        due("tape", x.look(TAPE), 0);
        x.wipe();
        due("append", appendOf(x), ILLEGAL_ARGUMENT);
        x.give(9, 1);
        due("append", x.append(), 0);
        due("length", x.length(0), 1);
        due("record", x.record(0, 0), 9L << 56);
    }

    // ---- promise 5

    private static void append() {
        part = "5 append";
        HalfJournal x = formatted();
        x.give(0x0102030405060708L, 8);
        due("append", x.append(), 0);
        dueLooks(x, 1, 14, 1, 0, UP, 1, 0, -1, 0);
        x.give(9, 1);
        due("append", x.append(), 1);
        dueLooks(x, 2, 22, 1, 0, UP, 2, 0, -1, 0);
        byte[] first = recordBytes(new byte[] {1, 2, 3, 4, 5, 6, 7, 8});
        byte[] second = recordBytes(new byte[] {9});
        byte[] both = Arrays.copyOf(first, 24);
        System.arraycopy(second, 0, both, first.length, second.length);
        for (int k = 0; k < 3; k++) {
            due("on the disk, word " + k, x.block(2, k), wordOf(both, 8 * k));
        }
        due("behind", x.block(2, 3), 0);
        due("recover", x.recover(), 2);
        dueLooks(x, 2, 22, 1, 0, UP, 2, 0, -1, 0);
    }

    private static void appendThrows() {
        part = "5 append throws";
        HalfJournal x = new HalfJournal();
        due("empty journal and empty tape", appendOf(x), ILLEGAL_STATE);
        x.give(1, 4);
        due("empty journal", appendOf(x), ILLEGAL_STATE);
        due("the tape stays", x.look(TAPE), 4);
        x.format();
        x.crash();
        due("journal down", appendOf(x), ILLEGAL_STATE);
        due("the tape stays", x.look(TAPE), 4);
        x.recover();
        x.wipe();
        x.crashIn(0);
        due("empty tape", appendOf(x), ILLEGAL_ARGUMENT);
        due("the crash stays due", x.look(DUE), 0);
        due("up", x.look(STATE), UP);
    }

    private static void appendPlacesBlocks() {
        part = "5 append places blocks";
        // What is USED, what comes behind it, and how many blocks that makes.
        int[][] cases = {
            {0, 504, 1}, {0, 506, 2}, {0, 505, 2}, {0, 503, 1}, {0, 1000, 2},
            {504, 1000, 3}, {494, 1, 1}, {496, 1, 1}, {498, 1, 2}, {506, 504, 1}, {506, 506, 2}, {506, 1000, 2}
        };
        for (int[] c : cases) {
            HalfJournal x = formatted();
            if (c[0] > 0) {
                put(x, c[0], 3);
            }
            long used = x.look(USED);
            long before = x.look(WRITTEN);
            put(x, c[1], 4);
            String of = c[1] + " bytes behind " + used;
            due("used, " + of, x.look(USED), used + sizeOf(c[1]));
            due("blocks, " + of, x.look(WRITTEN) - before, c[2]);
            long records = x.look(RECORDS);
            due("recover, " + of, x.recover(), records);
        }
        HalfJournal y = formatted();
        spoilAll(y, 3, 0xFF);
        put(y, 506, 1);
        due("the block of the two bytes 0 alone", y.block(3, 0), 0);
        due("the end of that block", y.block(3, 63), 0);
        y = formatted();
        spoilAll(y, 2, 0xFF);
        y.format();
        y.crash();
        for (int k = 30; k < 512; k += 40) {
            y.spoil(2, k, 0xFF);
            y.spoil(3, k, 0xFF);
        }
        y.recover();
        put(y, 10, 1);
        for (int k = 2; k < 64; k++) {
            due("0 behind the record, word " + k, y.block(2, k), 0);
        }
        due("the next block stays", y.block(3, 33), 0xFF00);
    }

    private static void appendFillsTheHalf() {
        part = "5 append fills the half";
        HalfJournal x = formatted();
        x.crash();
        int at = plantMany(x, 0, 15);
        x.recover();
        due("records", x.look(RECORDS), 15);
        due("used", x.look(USED), 15090);
        due("planted", at, 15090);
        tape(x, 778, 5);
        x.crashIn(0);
        due("784 bytes where 782 are left", appendOf(x), UNSUPPORTED);
        due("the tape stays", x.look(TAPE), 778);
        due("the crash stays due", x.look(DUE), 0);
        due("the records stay", x.look(RECORDS), 15);
        x.crashIn(-1);
        x.wipe();
        tape(x, 775, 5);
        due("append up to the last byte", x.append(), 15);
        due("used", x.look(USED), 15872);
        due("blocks", x.look(WRITTEN), 2);
        due("the other half is as it was", x.block(33, 0), 0);
        x.give(1, 1);
        due("no byte is left", appendOf(x), UNSUPPORTED);
        due("the tape stays", x.look(TAPE), 1);
        due("recover", x.recover(), 16);
        due("used", x.look(USED), 15872);
        x.wipe();
        due("empty tape ahead of no room", appendOf(x), ILLEGAL_ARGUMENT);
        x.mark(0, true);
        due("compact", x.compact(), 15);
        x.give(1, 1);
        due("room again", x.append(), 15);

        HalfJournal y = formatted();
        y.crash();
        plant(y, 0, plantMany(y, 0, 15), 770);
        y.recover();
        due("used", y.look(USED), 15866);
        y.give(1, 1);
        due("8 bytes where 6 are left", appendOf(y), UNSUPPORTED);
        y.format();
        y.crash();
        plant(y, 0, plantMany(y, 0, 15), 768);
        y.recover();
        y.wipe();
        y.give(1, 2);
        due("8 bytes where 8 are left", appendOf(y), 16);
        due("used", y.look(USED), 15872);
    }

    private static void appendCrashes() {
        part = "5 append crashes";
        for (int n = 0; n < 4; n++) {
            HalfJournal x = formatted();
            put(x, 504, 3);
            tape(x, 1000, 4);
            long before = x.look(WRITTEN);
            x.crashIn(n);
            int answer = appendOf(x);
            due("answer at " + n, answer, n < 3 ? -1 : 1);
            due("written at " + n, x.look(WRITTEN) - before, Math.min(n, 3));
            due("tape at " + n, x.look(TAPE), 0);
            due("state at " + n, x.look(STATE), n < 3 ? DOWN : UP);
            due("due at " + n, x.look(DUE), n < 3 ? -1 : 0);
            due("the last block first, at " + n, x.block(4, 0) != 0, n >= 1);
            due("then the middle one, at " + n, x.block(3, 0) != 0, n >= 2);
            due("the first one last, at " + n, (x.block(2, 63) & 0xFFFF) != 0, n >= 3);
            if (n < 3) {
                dueLooks(x, 0, 0, 0, 0, DOWN, before + n, 0, -1, 0);
            }
            due("recover at " + n, x.recover(), n < 3 ? 1 : 2);
            due("used at " + n, x.look(USED), n < 3 ? 510 : 1516);
        }
    }

    private static void appendKeepsWhatIsUsed() {
        part = "5 append keeps what is used";
        HalfJournal x = formatted();
        put(x, 1, 0x55);
        x.crash();
        x.spoil(2, 7, 0xAB);
        x.recover();
        due("used", x.look(USED), 8);
        put(x, 2, 0x66);
        due("the odd byte stays", x.block(2, 0) & 255, 0xAB);
        due("recover", x.recover(), 2);
        tape(x, 300, 0x77);
        x.crashIn(0);
        due("a crash", x.append(), -1);
        x.recover();
        put(x, 2, 0x44);
        due("nothing of a record that was not written", x.block(2, 4), 0);
    }

    // ---- promise 6

    private static void mark() {
        part = "6 mark";
        HalfJournal x = new HalfJournal();
        due("while empty", x.mark(0, true), false);
        x.format();
        due("no record", x.mark(0, true), false);
        put(x, 4, 1);
        put(x, 5, 2);
        put(x, 6, 3);
        due("below", x.mark(-1, true), false);
        due("above", x.mark(3, true), false);
        due("least", x.mark(Integer.MIN_VALUE, false), false);
        due("greatest", x.mark(Integer.MAX_VALUE, true), false);
        due("marked", x.look(MARKED), 0);
        due("not marked, and is not", x.mark(1, false), true);
        due("marked", x.look(MARKED), 0);
        due("mark", x.mark(0, true), true);
        due("mark again", x.mark(0, true), true);
        due("mark another", x.mark(2, true), true);
        due("marked", x.look(MARKED), 2);
        due("unmark", x.mark(0, false), true);
        due("marked", x.look(MARKED), 1);
        put(x, 7, 4);
        due("a new record is not marked", x.look(MARKED), 1);
        due("compact", x.compact(), 3);
        due("marked", x.look(MARKED), 0);
        due("the marked one is gone", x.length(2), 7);
        x.mark(1, true);
        x.crash();
        due("while down", x.mark(1, true), false);
        due("marked", x.look(MARKED), 0);
        x.recover();
        due("marked", x.look(MARKED), 0);
        due("nothing is marked", x.compact(), 3);
    }

    // ---- promise 7

    private static void compact() {
        part = "7 compact";
        HalfJournal x = formatted();
        put(x, 3, 1);
        put(x, 600, 2);
        put(x, 5, 3);
        x.mark(1, true);
        x.give(77, 2);
        long before = x.look(WRITTEN);
        due("compact", x.compact(), 2);
        dueLooks(x, 2, 10 + 12, 2, 1, UP, before + 2, 2, -1, 0);
        due("lengths", x.length(0) * 10 + x.length(1), 35);
        due("bytes", x.record(1, 0), 0x0303030303000000L);
        dueHead(x, 0, 2, 1);
        dueHead(x, 1, 1, 0);
        byte[] image = Arrays.copyOf(recordBytes(filled(3, 1)), 24);
        byte[] last = recordBytes(filled(5, 3));
        System.arraycopy(last, 0, image, 10, last.length);
        for (int k = 0; k < 3; k++) {
            due("on the disk, word " + k, x.block(33, k), wordOf(image, 8 * k));
        }
        due("append", x.append(), 2);
        due("append is in the new half", x.block(33, 3) != 0, true);
        x.mark(0, true);
        x.mark(1, true);
        x.mark(2, true);
        due("compact of nothing", x.compact(), 0);
        dueLooks(x, 0, 0, 3, 0, UP, before + 5, 0, -1, 0);
        dueHead(x, 1, 3, 0);
        due("the first block", x.block(2, 0), 0);
        due("the second one is as it was", x.block(3, 0) != 0, true);
        due("recover", x.recover(), 0);
        due("generation", x.look(GENERATION), 3);
    }

    private static void compactThrows() {
        part = "7 compact throws";
        HalfJournal x = new HalfJournal();
        due("while empty", compactOf(x), ILLEGAL_STATE);
        x.format();
        x.crash();
        due("while down", compactOf(x), ILLEGAL_STATE);
        plantHead(x, 0, 2147483646, 1);
        plantHead(x, 1, 5, 0);
        due("recover", x.recover(), 0);
        due("generation", x.look(GENERATION), 2147483646);
        due("compact to the greatest one", compactOf(x), 0);
        due("generation", x.look(GENERATION), 2147483647);
        dueHead(x, 1, 2147483647, 0);
        put(x, 4, 4);
        x.mark(0, true);
        x.crashIn(0);
        due("no greater one", compactOf(x), UNSUPPORTED);
        dueLooks(x, 1, 10, 2147483647, 0, UP, 3, 0, 0, 1);
        x.crash();
        due("down ahead of no greater one", compactOf(x), ILLEGAL_STATE);
    }

    private static void compactPlacesBlocks() {
        part = "7 compact places blocks";
        int[][] cases = {{504, 1}, {505, 2}, {506, 2}, {1000, 2}};
        for (int[] c : cases) {
            HalfJournal x = formatted();
            put(x, c[0], 9);
            x.crash();
            x.spoil(34, 511, 1);
            x.spoil(33, 511, 1);
            x.recover();
            long before = x.look(WRITTEN);
            due("compact of " + c[0], x.compact(), 1);
            due("blocks of " + c[0], x.look(WRITTEN) - before, c[1] + 1);
            due("0 behind in block 1 of " + c[0], x.block(34, 63), c[1] > 1 ? 0 : 1);
            due("recover of " + c[0], x.recover(), 1);
        }
        HalfJournal y = formatted();
        y.crash();
        plant(y, 0, plantMany(y, 0, 15), 776);
        y.spoil(0, 100, 1);
        y.recover();
        due("a full half", y.compact(), 16);
        due("blocks of a full half", y.look(WRITTEN), 32);
        due("used", y.look(USED), 15872);
        due("0 behind the head", y.block(0, 12), 0);
        due("compact back", y.compact(), 16);
        due("recover", y.recover(), 16);
        due("length", y.length(15), 776);
        for (int i = 1; i < 16; i++) {
            y.mark(i, true);
        }
        due("compact to one", y.compact(), 1);
        due("blocks", y.look(WRITTEN), 67);
        due("one alone", y.recover(), 1);
    }

    private static void compactCrashes() {
        part = "7 compact crashes";
        for (int n = 0; n < 5; n++) {
            HalfJournal x = formatted();
            put(x, 600, 1);
            put(x, 700, 2);
            x.mark(0, true);
            x.give(8, 8);
            long before = x.look(WRITTEN);
            x.crashIn(n);
            due("compact at " + n, compactOf(x), n < 3 ? -1 : 1);
            due("written at " + n, x.look(WRITTEN) - before, Math.min(n, 3));
            due("state at " + n, x.look(STATE), n < 3 ? DOWN : UP);
            due("due at " + n, x.look(DUE), n < 3 ? -1 : n - 3);
            due("tape at " + n, x.look(TAPE), 8);
            due("marked at " + n, x.look(MARKED), 0);
            due("the first block first, at " + n, x.block(33, 0) != 0, n >= 1);
            due("then the second one, at " + n, x.block(34, 0) != 0, n >= 2);
            due("the head last, at " + n, x.block(0, 0) != 0, n >= 3);
            due("recover at " + n, x.recover(), n < 3 ? 2 : 1);
            due("generation at " + n, x.look(GENERATION), n < 3 ? 1 : 2);
            due("half at " + n, x.look(HALF), n < 3 ? 0 : 1);
            due("length at " + n, x.length(0), n < 3 ? 600 : 700);
        }
    }

    private static void compactMovesTheHead() {
        part = "7 compact moves the head";
        HalfJournal x = formatted();
        x.crash();
        plantHead(x, 1, 4, 1);
        x.recover();
        due("half", x.look(HALF), 1);
        due("compact", x.compact(), 0);
        dueHead(x, 1, 5, 0);
        due("block 0", x.block(0, 0), 0);
        due("compact", x.compact(), 0);
        dueHead(x, 0, 6, 1);
        due("generation", x.look(GENERATION), 6);
        x.crash();
        plantHead(x, 0, 8, 0);
        x.recover();
        due("compact from an even one to half 1", x.compact(), 0);
        dueHead(x, 1, 9, 1);
        dueHead(x, 0, 8, 0);
    }

    private static void compactMendsTheOddByte() {
        part = "7 compact mends the odd byte";
        HalfJournal x = formatted();
        put(x, 1, 0x55);
        put(x, 3, 0x66);
        x.crash();
        x.spoil(2, 7, 0xAB);
        x.spoil(2, 17, 0xCD);
        due("recover", x.recover(), 2);
        due("compact", x.compact(), 2);
        due("the odd byte is 0", x.block(33, 0) & 255, 0);
        due("the last odd byte is 0", x.block(33, 2) << 8, 0);
    }

    // ---- promises 8 and 9

    private static void crashIn() {
        part = "8 crashIn";
        HalfJournal x = new HalfJournal();
        due("1000 while empty", x.crashIn(1000), true);
        due("due", x.look(DUE), 1000);
        due("1001", x.crashIn(1001), false);
        due("greatest", x.crashIn(Integer.MAX_VALUE), false);
        due("due", x.look(DUE), 1000);
        due("-1", x.crashIn(-1), true);
        due("due", x.look(DUE), -1);
        due("3", x.crashIn(3), true);
        due("least", x.crashIn(Integer.MIN_VALUE), true);
        due("due", x.look(DUE), -1);
        x.format();
        x.crashIn(2);
        put(x, 1, 1);
        due("one less", x.look(DUE), 1);
        put(x, 1, 1);
        due("one less", x.look(DUE), 0);
        due("up yet", x.look(STATE), UP);
        x.give(1, 1);
        due("crash", x.append(), -1);
        due("due", x.look(DUE), -1);
        due("0 while down", x.crashIn(0), true);
        due("due", x.look(DUE), 0);
        due("written", x.look(WRITTEN), 2);
    }

    private static void crash() {
        part = "9 crash";
        HalfJournal x = new HalfJournal();
        x.crash();
        due("from empty", x.look(STATE), DOWN);
        x.format();
        put(x, 9, 1);
        x.compact();
        x.mark(0, true);
        x.give(5, 5);
        x.crashIn(17);
        x.crash();
        dueLooks(x, 0, 0, 0, 0, DOWN, 3, 5, 17, 0);
        due("length", x.length(0), -1);
        due("record", x.record(0, 0), 0);
        due("the disk stays", x.block(33, 0) != 0, true);
        x.crash();
        dueLooks(x, 0, 0, 0, 0, DOWN, 3, 5, 17, 0);
    }

    // ---- promise 10

    private static void recoverHeads() {
        part = "10 recover heads";
        HalfJournal x = new HalfJournal();
        plantHead(x, 0, 7, 1);
        due("empty until it is looked at", x.look(STATE), EMPTY);
        dueHeads(x, 7, 1);
        plantHead(x, 1, 7, 0);
        dueHeads(x, 7, 1);
        plantHead(x, 1, 8, 0);
        dueHeads(x, 8, 0);
        plantHead(x, 0, 2147483647, 1);
        dueHeads(x, 2147483647, 1);
        plantHead(x, 0, -2147483648, 1);
        dueHeads(x, 8, 0);
        plantHead(x, 0, 0, 1);
        dueHeads(x, 8, 0);
        plantHead(x, 0, 9, 2);
        dueHeads(x, 8, 0);
        plantHead(x, 0, 9, 255);
        dueHeads(x, 8, 0);
        plantHead(x, 0, 1, 1);
        dueHeads(x, 8, 0);
        plantHead(x, 1, 0, 0);
        dueHeads(x, 1, 1);
        plantHead(x, 0, -1, 0);
        dueHeads(x, 0, 0);
        for (int k = 0; k < 12; k++) {
            HalfJournal y = formatted();
            y.crash();
            y.spoil(1, k, headBytes(1, 0)[k] ^ 1);
            due("head spoiled at " + k, y.recover(), -1);
            dueLooks(y, 0, 0, 0, 0, EMPTY, 0, 0, -1, 0);
        }
        HalfJournal z = formatted();
        z.crash();
        z.spoil(1, 12, 200);
        z.spoil(1, 511, 200);
        due("spoiled behind the head", z.recover(), 0);
        int[] wrongAt = {0, 1, 3};
        for (int k : wrongAt) {
            byte[] head = headBytes(3, 0);
            head[k] ^= 1;
            HalfJournal w = new HalfJournal();
            plantBytes(w, 0, 0, Arrays.copyOf(withCheck(Arrays.copyOf(head, 8)), 12));
            due("a head with another byte " + k, w.recover(), -1);
        }
    }

    private static void recoverRecords() {
        part = "10 recover records";
        // Byte of the disk that is spoiled, and how many of three records are left.
        int[][] cases = {{0, 0}, {1, 0}, {2, 0}, {4, 0}, {5, 0}, {8, 0}, {9, 3}, {10, 1}, {12, 1}, {15, 1}, {19, 1},
            {20, 2}, {27, 2}, {28, 3}, {40, 3}};
        for (int[] c : cases) {
            HalfJournal x = formatted();
            put(x, 3, 1);
            put(x, 4, 2);
            put(x, 2, 3);
            x.crash();
            long word = x.block(2, c[0] / 8);
            x.spoil(2, c[0], (int) (word >> 56 - c[0] % 8 * 8) ^ 1);
            due("recover, spoiled at " + c[0], x.recover(), c[1]);
            due("records, spoiled at " + c[0], x.look(RECORDS), c[1]);
            int[] used = {0, 10, 20, 28};
            due("used, spoiled at " + c[0], x.look(USED), used[c[1]]);
            due("behind the end, spoiled at " + c[0], x.length(c[1]), -1);
        }
        HalfJournal y = formatted();
        y.crash();
        plant(y, 0, 0, 1000);
        plant(y, 0, 1006, 1001);
        due("a length of 1001", y.recover(), 1);
        y.format();
        y.crash();
        plant(y, 0, 0, 0);
        due("a length of 0", y.recover(), 0);
        y.format();
        y.crash();
        plant(y, 0, 0, 1);
        plant(y, 0, 8, 1);
        plant(y, 0, 18, 1);
        due("a record that is not behind the others", y.recover(), 2);
        put(y, 2, 1);
        due("a record with two bytes 0 behind", y.look(RECORDS), 3);
        due("the block behind is 0", y.recover(), 3);
    }

    private static void recoverEndOfHalf() {
        part = "10 recover end of half";
        // Of 782 bytes that are left behind 15 records, with a record of that LENGTH there.
        int[][] cases = {{774, 16}, {775, 16}, {776, 16}, {777, 15}, {778, 15}};
        for (int h = 0; h < 2; h++) {
            for (int[] c : cases) {
                HalfJournal x = new HalfJournal();
                plantHead(x, 1, 3, h);
                plant(x, h, plantMany(x, h, 15), c[0]);
                due("a record of " + c[0] + " at the end of half " + h, x.recover(), c[1]);
            }
        }
    }

    private static void recoverForgets() {
        part = "10 recover forgets";
        HalfJournal x = formatted();
        put(x, 4, 1);
        x.mark(0, true);
        x.crashIn(4);
        x.give(6, 6);
        due("recover while up", x.recover(), 1);
        dueLooks(x, 1, 10, 1, 0, UP, 1, 6, -1, 0);
        x.crash();
        x.crashIn(4);
        x.spoil(1, 0, 0);
        due("recover to empty", x.recover(), -1);
        dueLooks(x, 0, 0, 0, 0, EMPTY, 1, 6, -1, 0);
    }

    // ---- promise 11

    private static void spoil() {
        part = "11 spoil";
        HalfJournal x = new HalfJournal();
        due("while empty", x.spoil(5, 9, 0x1F3), true);
        due("its lowest eight bits", x.block(5, 1), 0x00F3000000000000L);
        due("a negative one", x.spoil(5, 10, -1), true);
        due("its lowest eight bits", x.block(5, 1), 0x00F3FF0000000000L);
        due("the last byte", x.spoil(63, 511, 1), true);
        due("the last byte", x.block(63, 63), 1);
        due("the first byte", x.spoil(0, 0, 1), true);
        due("the first byte", x.block(0, 0), 1L << 56);
        due("block -1", x.spoil(-1, 0, 1), false);
        due("block 64", x.spoil(64, 0, 1), false);
        due("byte -1", x.spoil(1, -1, 1), false);
        due("byte 512", x.spoil(1, 512, 1), false);
        due("far blocks", x.spoil(1 << 23, 0, 1), false);
        due("greatest", x.spoil(Integer.MAX_VALUE, Integer.MAX_VALUE, 1), false);
        due("least", x.spoil(Integer.MIN_VALUE, Integer.MIN_VALUE, 1), false);
        due("the neighbours", x.block(0, 63) + x.block(1, 0) + x.block(2, 0), 0);
        due("nothing is written", x.look(WRITTEN), 0);
        x.format();
        due("while up", x.spoil(5, 9, 1), false);
        due("nothing changes", x.block(5, 1), 0);
        x.crashIn(0);
        x.crash();
        due("while down", x.spoil(5, 9, 1), true);
        due("no write", x.look(DUE), 0);
        due("changes", x.block(5, 1), 1L << 48);
    }

    // ---- promises 12 to 15

    private static void length() {
        part = "12 length";
        HalfJournal x = new HalfJournal();
        due("while empty", x.length(0), -1);
        x.format();
        due("no record", x.length(0), -1);
        put(x, 1, 1);
        put(x, 1000, 2);
        due("record 0", x.length(0), 1);
        due("record 1", x.length(1), 1000);
        due("record 2", x.length(2), -1);
        due("record -1", x.length(-1), -1);
        due("greatest", x.length(Integer.MAX_VALUE), -1);
        due("least", x.length(Integer.MIN_VALUE), -1);
        x.crash();
        due("while down", x.length(0), -1);
    }

    private static void record() {
        part = "13 record";
        HalfJournal x = formatted();
        due("no record", x.record(0, 0), 0);
        x.give(0x8182838485868788L, 8);
        x.give(0x91929394, 4);
        x.append();
        put(x, 16, 0xEE);
        put(x, 1000, 0xDD);
        due("word 0", x.record(0, 0), 0x8182838485868788L);
        due("word 1", x.record(0, 1), 0x9192939400000000L);
        due("word 2", x.record(0, 2), 0);
        due("word 1 of 16", x.record(1, 1), 0xEEEEEEEEEEEEEEEEL);
        due("word 2 of 16", x.record(1, 2), 0);
        due("word 124 of 1000", x.record(2, 124), 0xDDDDDDDDDDDDDDDDL);
        due("word 125 of 1000", x.record(2, 125), 0);
        due("word -1", x.record(1, -1), 0);
        due("8 * k comes round to 0", x.record(0, 1 << 29), 0);
        due("8 * k comes round to 0 from below", x.record(0, -(1 << 29)), 0);
        due("8 * k comes round to 8", x.record(0, (1 << 29) + 1), 0);
        due("greatest word", x.record(0, Integer.MAX_VALUE), 0);
        due("least word", x.record(0, Integer.MIN_VALUE), 0);
        due("record 3", x.record(3, 0), 0);
        due("record -1", x.record(-1, 0), 0);
        due("greatest record", x.record(Integer.MAX_VALUE, 0), 0);
        due("least record", x.record(Integer.MIN_VALUE, 0), 0);
        x.compact();
        due("word 0 in half 1", x.record(0, 0), 0x8182838485868788L);
        due("word 124 in half 1", x.record(2, 124), 0xDDDDDDDDDDDDDDDDL);
        x.crash();
        due("while down", x.record(0, 0), 0);
    }

    private static void block() {
        part = "14 block";
        HalfJournal x = new HalfJournal();
        for (int k = 0; k < 8; k++) {
            x.spoil(10, 16 + k, 0x81 + k);
        }
        x.spoil(10, 511, 9);
        x.spoil(63, 504, 9);
        due("word 2", x.block(10, 2), 0x8182838485868788L);
        due("word 1", x.block(10, 1), 0);
        due("word 3", x.block(10, 3), 0);
        due("the last word", x.block(10, 63), 9);
        due("the last word of the last block", x.block(63, 63), 9L << 56);
        x.spoil(11, 0, 1);
        x.spoil(9, 511, 1);
        due("word 64", x.block(10, 64), 0);
        due("word -1", x.block(10, -1), 0);
        due("block 64", x.block(64, 0), 0);
        due("block -1", x.block(-1, 0), 0);
        x.spoil(0, 0, 1);
        due("8 * k comes round", x.block(0, 1 << 29), 0);
        due("512 * b comes round", x.block(1 << 23, 0), 0);
        due("greatest", x.block(Integer.MAX_VALUE, Integer.MAX_VALUE), 0);
        due("least", x.block(Integer.MIN_VALUE, Integer.MIN_VALUE), 0);
        x.format();
        x.give(5, 1);
        due("the tape is not on the disk", x.block(2, 0), 0);
        x.crashIn(0);
        x.append();
        due("nor what was not written", x.block(2, 0), 0);
    }

    private static void look() {
        part = "15 look";
        HalfJournal x = formatted();
        put(x, 20, 1);
        put(x, 21, 1);
        put(x, 22, 1);
        x.compact();
        x.mark(0, true);
        x.mark(2, true);
        x.give(1, 7);
        x.crashIn(33);
        dueLooks(x, 3, 26 + 28 + 28, 2, 1, UP, 5, 7, 33, 2);
        due("look 9", x.look(9), -1);
        due("look -1", x.look(-1), -1);
        due("greatest", x.look(Integer.MAX_VALUE), -1);
        due("least", x.look(Integer.MIN_VALUE), -1);
        dueLooks(x, 3, 26 + 28 + 28, 2, 1, UP, 5, 7, 33, 2);
    }

    // ---- what the tests share

    private static void due(String what, long got, long want) {
        if (got != want) {
            wrong++;
            System.out.println(part + ": " + what + ": answered " + got + ", due is " + want);
        }
    }

    private static void due(String what, boolean got, boolean want) {
        due(what, got ? 1 : 0, want ? 1 : 0);
    }

    private static void dueLooks(HalfJournal x, long... want) {
        for (int i = 0; i < want.length; i++) {
            due("look " + i, x.look(i), want[i]);
        }
    }

    private static void dueHead(HalfJournal x, int b, int generation, int half) {
        byte[] head = Arrays.copyOf(headBytes(generation, half), 16);
        due("head of block " + b, x.block(b, 0), wordOf(head, 0));
        due("check of block " + b, x.block(b, 1), wordOf(head, 8));
    }

    private static void dueHeads(HalfJournal x, int generation, int half) {
        due("recover", x.recover(), generation == 0 ? -1 : 0);
        due("generation", x.look(GENERATION), generation);
        due("half", x.look(HALF), half);
        due("state", x.look(STATE), generation == 0 ? EMPTY : UP);
        x.crash();
    }

    private static int appendOf(HalfJournal x) {
        try {
            return x.append();
        } catch (RuntimeException e) {
            return kindOf(e);
        }
    }

    private static int compactOf(HalfJournal x) {
        try {
            return x.compact();
        } catch (RuntimeException e) {
            return kindOf(e);
        }
    }

    private static int kindOf(RuntimeException e) {
        if (e.getClass() == IllegalStateException.class) {
            return ILLEGAL_STATE;
        }
        if (e.getClass() == IllegalArgumentException.class) {
            return ILLEGAL_ARGUMENT;
        }
        return e.getClass() == UnsupportedOperationException.class ? UNSUPPORTED : OTHER;
    }

    private static HalfJournal formatted() {
        HalfJournal x = new HalfJournal();
        x.format();
        return x;
    }

    private static void tape(HalfJournal x, int bytes, int value) {
        long word = (value & 255) * 0x0101010101010101L;
        for (int left = bytes; left > 0; left -= 8) {
            x.give(word, Math.min(left, 8));
        }
    }

    private static void put(HalfJournal x, int bytes, int value) {
        tape(x, bytes, value);
        due("a record of " + bytes, appendOf(x) >= 0, true);
    }

    private static void spoilAll(HalfJournal x, int b, int v) {
        x.crash();
        for (int k = 0; k < 512; k += 4) {
            x.spoil(b, k, v);
        }
        x.recover();
    }

    private static byte[] filled(int bytes, int value) {
        byte[] filled = new byte[bytes];
        Arrays.fill(filled, (byte) value);
        return filled;
    }

    private static int sizeOf(int length) {
        return length + 6 + length % 2;
    }

    private static byte[] withCheck(byte[] bytes) {
        CRC32 crc = new CRC32();
        crc.update(bytes);
        byte[] all = Arrays.copyOf(bytes, bytes.length + 4);
        for (int i = 0; i < 4; i++) {
            all[bytes.length + i] = (byte) (crc.getValue() >> 8 * i);
        }
        return all;
    }

    private static byte[] recordBytes(byte[] content) {
        byte[] bytes = new byte[content.length + 2];
        bytes[0] = (byte) content.length;
        bytes[1] = (byte) (content.length >> 8);
        System.arraycopy(content, 0, bytes, 2, content.length);
        return Arrays.copyOf(withCheck(bytes), sizeOf(content.length));
    }

    private static byte[] headBytes(int generation, int half) {
        return withCheck(new byte[] {74, 49, (byte) half, 0, (byte) generation, (byte) (generation >> 8),
            (byte) (generation >> 16), (byte) (generation >> 24)});
    }

    private static long wordOf(byte[] bytes, int from) {
        long v = 0;
        for (int i = 0; i < 8; i++) {
            v = v << 8 | bytes[from + i] & 255;
        }
        return v;
    }

    private static void plantBytes(HalfJournal x, int b, int k, byte[] bytes) {
        int at = b * 512 + k;
        for (int i = 0; i < bytes.length; i++) {
            x.spoil((at + i) / 512, (at + i) % 512, bytes[i]);
        }
    }

    private static void plantHead(HalfJournal x, int b, int generation, int half) {
        plantBytes(x, b, 0, headBytes(generation, half));
    }

    /** Puts a record on bytes of the disk that are 0, by its LENGTH and CHECK alone: few calls. */
    private static void plant(HalfJournal x, int half, int at, int length) {
        byte[] bytes = recordBytes(new byte[length]);
        int from = (2 + 31 * half) * 512 + at;
        for (int i = 0; i < bytes.length; i++) {
            if (bytes[i] != 0) {
                x.spoil((from + i) / 512, (from + i) % 512, bytes[i]);
            }
        }
    }

    private static int plantMany(HalfJournal x, int half, int records) {
        for (int i = 0; i < records; i++) {
            plant(x, half, i * 1006, 1000);
        }
        return records * 1006;
    }
}
