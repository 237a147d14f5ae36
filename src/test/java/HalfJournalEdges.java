import java.util.ArrayList;
import java.util.Arrays;
import java.util.List;

/**
 * Each sentence of the document that names a boundary case, with a test of its own.
 *
 * What later calls than the 512th answer is free, so no object here has more: where there is more to see, the same
 * story is told to a new object again, and the next part of it is looked at.
 */
public final class HalfJournalEdges {
    private static final int MAX_CALLS = 512;
    private static final int DISK_BYTES = 64 * 512;
    private static final int HALF_BYTES = 15872;
    private static final int NONE = -1;
    private static final int STATE_EXCEPTION = -1001;
    private static final int ARGUMENT_EXCEPTION = -1002;
    private static final int UNSUPPORTED_EXCEPTION = -1003;
    private static final int OTHER_EXCEPTION = -1004;
    private static final int LEAST = Integer.MIN_VALUE;
    private static final int GREATEST = Integer.MAX_VALUE;

    private static final int RECORDS = 0;
    private static final int USED = 1;
    private static final int GENERATION = 2;
    private static final int HALF = 3;
    private static final int STATE = 4;
    private static final int WRITTEN = 5;
    private static final int TAPE = 6;
    private static final int DUE = 7;
    private static final int MARKED = 8;
    private static final int DOWN = 0;
    private static final int EMPTY = 1;
    private static final int UP = 2;

    private static int wrong = 0;
    private static String sentence = "";

    public static void main(String[] args) {
        whatItIs();
        termsOfTheDisk();
        termsOfHeads();
        termsOfRecords();
        termsOfTheJournal();
        termsOfWrites();
        termsOfCalls();
        promises1To4();
        promises5To7();
        promises8To11();
        promises12To15();
        System.out.println(wrong == 0 ? "all sentences hold" : wrong + " answers are not as due");
        if (wrong != 0) {
            System.exit(1);
        }
    }

    // ---- the sentences, in the document's order

    private static void whatItIs() {
        test("any write can be the last one ahead of a crash: what was there before is there again, whole records alone",
            HalfJournalEdges::recordsBehindCrashesOfAppend, HalfJournalEdges::recordsBehindCrashesOfCompact);
        test("when it is full it is written anew, without those that are not wanted any more, on the other half",
            HalfJournalEdges::fullAndWrittenAnew);
        test("An object is used for at most 512 calls after it has been made",
            HalfJournalEdges::manyRecordsUpToTheLastCall, HalfJournalEdges::dearestCallsUpToTheLastOne);
    }

    private static void termsOfTheDisk() {
        test("THE DISK has 64 BLOCKS of 512 bytes", HalfJournalEdges::firstAndLastBytesOfTheDisk);
        test("all 0 at first", () -> dueDisk("new", new byte[DISK_BYTES], run -> { }));
        test("Blocks 0 and 1 are for HEADS", HalfJournalEdges::noHeadInOtherBlocks);
        test("blocks 2 .. 32 are HALF 0, blocks 33 .. 63 HALF 1", HalfJournalEdges::firstBytesOfTheHalves);
        test("a HALF has 15872 bytes", HalfJournalEdges::lastBytesOfTheHalves);
        test("CHECK of some bytes: c is -1 (32 bits) at first", HalfJournalEdges::checkOfEveryByte);
        test("Numbers of several bytes have the lowest first.", HalfJournalEdges::lowestFirst);
    }

    private static void termsOfHeads() {
        test("74, 49, the HALF (0 or 1), 0", HalfJournalEdges::everyBeginningOfAHead);
        test("four bytes GENERATION (1 or more, below 2^31)", HalfJournalEdges::boundsOfTheGeneration);
        test("four bytes CHECK of these eight", HalfJournalEdges::everyBitOfAHead);
        test("A HEAD is the first twelve bytes of its block", HalfJournalEdges::behindTheHead);
        test("The HEAD that counts is the RIGHT one with the greater GENERATION",
            HalfJournalEdges::greaterGeneration, HalfJournalEdges::greaterButNotRight);
        test("of two alike that of block 0", HalfJournalEdges::alikeGenerations);
    }

    private static void termsOfRecords() {
        test("two bytes LENGTH (1 .. 1000)", HalfJournalEdges::boundsOfTheLength);
        test("four bytes CHECK of all of these (with the LENGTH)",
            HalfJournalEdges::everyBitOfARecord, HalfJournalEdges::checksOfSomethingElse);
        test("one byte more if LENGTH is odd", HalfJournalEdges::oddAndEvenSizes);
        test("which is written as 0", HalfJournalEdges::oddByteIsWritten);
        test("and counts for nothing when it is read", HalfJournalEdges::oddByteIsRead);
        test("The RECORDS end where there is none such: where what stands there is not so",
            HalfJournalEdges::nothingBehindTheEnd);
        test("or would not end within the HALF", HalfJournalEdges::endOfTheHalf, HalfJournalEdges::overTheHalf);
    }

    private static void termsOfTheJournal() {
        test("at first it is EMPTY", () -> dueLooks(new Run(), 0, 0, 0, 0, EMPTY, 0, 0, NONE, 0));
        test("EMPTY (no HEAD is RIGHT)", HalfJournalEdges::emptyWithoutAHead);
        test("with the numbers 0, 1, .., and USED, how many bytes they have there", HalfJournalEdges::noneAndFull);
        test("While it is not UP it has none, and GENERATION, HALF and USED are 0.", HalfJournalEdges::notUp);
    }

    private static void termsOfWrites() {
        test("To WRITE a block is to put all of its 512 bytes on the disk.", HalfJournalEdges::wholeBlocks);
        test("and n is 0, the block is not written, the journal is DOWN, and none is due any more",
            HalfJournalEdges::crashAtOnce);
        test("if n is more, it is 1 less", HalfJournalEdges::crashLater);
        test("To APPEND a record", HalfJournalEdges::appendFromTheBeginning, HalfJournalEdges::appendAtBlockBorders,
            HalfJournalEdges::appendAtTheEndOfTheHalf);
        test("The blocks that these lie in are WRITTEN, the last one first", HalfJournalEdges::crashesOfAppend);
        test("two bytes 0 behind it, as far as the HALF goes", HalfJournalEdges::nothingComesBackBehindAppend);
        test("what is in them behind that is 0", HalfJournalEdges::nothingOfEarlierRecordsByAppend,
            HalfJournalEdges::nothingOfEarlierRecordsAtTheEnd);
        test("what is in them behind that being 0", HalfJournalEdges::nothingOfEarlierRecordsByCompact);
        test("To COMPACT", HalfJournalEdges::compactAtBlockBorders, HalfJournalEdges::compactOfAFullHalf);
        test("the blocks that these lie in (the first one at least) are WRITTEN", HalfJournalEdges::compactOfNothing);
        test("are WRITTEN, the first one first", HalfJournalEdges::crashesOfCompact);
        test("the block GENERATION + 1 modulo 2", HalfJournalEdges::blocksOfTheHeads);
        test("Then the journal has these records; nothing is marked.", HalfJournalEdges::recordsOfCompact);
    }

    private static void termsOfCalls() {
        test("A call that comes to a CRASH answers NONE.", HalfJournalEdges::crashesAnswerNone);
        test("What throws, or answers false, changes nothing.", HalfJournalEdges::refusedBeforeUp,
            HalfJournalEdges::refusedWhileUp, HalfJournalEdges::refusedWhileFull);
        test("Of several exceptions the first one listed is thrown.", HalfJournalEdges::severalExceptions);
        test("NONE = -1", () -> due("NONE", HalfJournal.NONE, -1));
    }

    private static void promises1To4() {
        test("An empty disk; no CRASH is due.", () -> {
            due("recover", new Run().recover(), NONE);
            due("due", new Run().look(DUE), NONE);
        });
        test("All blocks are 0, but for block 1, which has the HEAD of GENERATION 1 and HALF 0",
            HalfJournalEdges::formatClearsTheDisk);
        test("the journal is UP, without records; no CRASH is due. (Nothing is WRITTEN.)",
            HalfJournalEdges::formatFromEveryState);
        test("n bytes of v, 1 .. 8, the highest first (of its lowest n), come to the TAPE",
            HalfJournalEdges::giveEachLength);
        test("false if n is not as said", HalfJournalEdges::giveOtherLengths);
        test("or the TAPE would have more than 1000", HalfJournalEdges::giveToAFullTape);
        test("The TAPE is empty.", HalfJournalEdges::wipeEmptyAndFull);
    }

    private static void promises5To7() {
        test("the TAPE is empty then (also by a CRASH): the number of the record", HalfJournalEdges::tapeOfAppend);
        test("IllegalStateException if the journal is not UP; IllegalArgumentException if the TAPE is empty",
            HalfJournalEdges::appendIsRefused);
        test("UnsupportedOperationException if the HALF has no room for the record", HalfJournalEdges::noRoom);
        test("A record is marked, or is so no more: true", HalfJournalEdges::markAndMarkAgain);
        test("false if there is none such", HalfJournalEdges::markNone);
        test("how many records there are. IllegalStateException if the journal is not UP",
            HalfJournalEdges::compactCountsOrIsRefused);
        test("UnsupportedOperationException if GENERATION is 2147483647 (there is no greater one)",
            HalfJournalEdges::greatestGeneration);
    }

    private static void promises8To11() {
        test("A CRASH is due in n writes (none, if n is below 0): true", HalfJournalEdges::crashInBelowAndAbove0);
        test("false if n is above 1000", HalfJournalEdges::crashInAbove1000);
        test("The journal is DOWN (a CRASH that is due stays so).", HalfJournalEdges::crashFromEveryState);
        test("The disk is looked at anew: the journal is UP, or EMPTY", HalfJournalEdges::recoverFromEveryState);
        test("nothing is marked, no CRASH is due: how many records it has", HalfJournalEdges::recoverForgets);
        test("NONE if it is EMPTY", HalfJournalEdges::recoverNoneOrZero);
        test("Byte k of block b becomes the lowest eight bits of v: true", HalfJournalEdges::spoilEightBits);
        test("false if there is none such, or the journal is UP", HalfJournalEdges::spoilNone);
    }

    private static void promises12To15() {
        test("How many bytes record i has", HalfJournalEdges::leastAndGreatestLength);
        test("NONE if there is none such", HalfJournalEdges::lengthOfNone);
        test("Bytes 8 * k .. 8 * k + 7 of record i, the first one highest", HalfJournalEdges::wordsOfRecords);
        test("0 where there are none", HalfJournalEdges::wordsBesideRecords);
        test("Bytes 8 * k .. 8 * k + 7 of block b, likewise", HalfJournalEdges::wordsOfBlocks,
            HalfJournalEdges::wordsBesideBlocks);
        test("as they are on the disk", HalfJournalEdges::blockShowsTheDiskAlone);
        test("5: blocks WRITTEN in all", HalfJournalEdges::writtenInAll);
        test("NONE for any other which", HalfJournalEdges::lookAtNothing);
        test("in how many writes a CRASH is due (NONE without one)", HalfJournalEdges::lookAtTheCrash);
    }

    // ---- what it is

    private static void recordsBehindCrashesOfAppend() {
        // The append has three writes, so the last crash comes too late for it.
        for (int n = 0; n < 4; n++) {
            Run run = threeRecords();
            List<List<Long>> want = contentsOf(run);
            run.tape(filled(1000, 0x44));
            run.crashIn(n);
            due("append, crash in " + n, run.append(), n < 3 ? NONE : 3);
            due("recover, crash in " + n, run.recover(), n < 3 ? 3 : 4);
            due("the records before, crash in " + n, contentsOf(run).subList(0, 3).equals(want), true);
            due("the new one, crash in " + n, run.length(3), n < 3 ? NONE : 1000);
            run.give(0x55, 1);
            due("the next append, crash in " + n, run.append(), n < 3 ? 3 : 4);
            due("recover again, crash in " + n, run.recover(), n < 3 ? 4 : 5);
            due("the next one, crash in " + n, run.record(n < 3 ? 3 : 4, 0), 0x55L << 56);
        }
    }

    private static void recordsBehindCrashesOfCompact() {
        // Three writes: two blocks and the HEAD's. What a crash leaves on the other HALF must not come back later.
        for (int n = 0; n < 4; n++) {
            Run run = threeRecords();
            run.put(20, 0x44);
            List<List<Long>> want = contentsOf(run);
            run.crashIn(n);
            due("compact, crash in " + n, run.compact(), n < 3 ? NONE : 4);
            due("recover, crash in " + n, run.recover(), 4);
            due("generation, crash in " + n, run.look(GENERATION), n < 3 ? 1 : 2);
            due("the records, crash in " + n, contentsOf(run).equals(want), true);
            run.mark(1, true);
            due("the next compact, crash in " + n, run.compact(), 3);
            want.remove(1);
            due("recover again, crash in " + n, run.recover(), 3);
            due("the records without one, crash in " + n, contentsOf(run).equals(want), true);
        }
    }

    private static void fullAndWrittenAnew() {
        for (int half = 0; half < 2; half++) {
            Run run = full(half);
            run.give(0x7172, 2);
            due("append to a full half", run.append(), UNSUPPORTED_EXCEPTION);
            run.mark(3, true);
            run.mark(15, true);
            due("compact", run.compact(), 14);
            due("the other half", run.look(HALF), 1 - half);
            due("append of the same tape", run.append(), 14);
            run.crash();
            due("recover", run.recover(), 15);
            due("its bytes", run.record(14, 0), 0x7172L << 48);
        }
    }

    /** 492 bytes of records, so that 1000 bytes more lie in three blocks, and 20 more in two. */
    private static Run threeRecords() {
        Run run = formatted();
        run.put(3, 0x11);
        run.put(250, 0x22);
        run.put(220, 0x33);
        due("used", run.look(USED), 492);
        return run;
    }

    /** The LENGTH and the words of each record, but of those above 250 bytes, which would take too many calls. */
    private static List<List<Long>> contentsOf(Run run) {
        List<List<Long>> contents = new ArrayList<>();
        int records = run.look(RECORDS);
        for (int i = 0; i < records; i++) {
            List<Long> content = new ArrayList<>();
            int length = run.length(i);
            content.add((long) length);
            for (int k = 0; length <= 250 && 8 * k < length; k++) {
                content.add(run.record(i, k));
            }
            contents.add(content);
        }
        return contents;
    }

    private static void manyRecordsUpToTheLastCall() {
        Run run = formatted();
        for (int i = 0; i < 170; i++) {
            run.give(i, 1 + i % 8);
            due("append", run.append(), i);
        }
        for (int i = 0; i < 170; i += 2) {
            due("mark", run.mark(i, true), true);
        }
        due("compact", run.compact(), 85);
        run.crash();
        due("recover", run.recover(), 85);
        while (run.left() > 1) {
            int i = run.left() % 85;
            due("length of " + i, run.length(i), 2 + 2 * i % 8);
        }
        due("the 512th call", run.record(84, 0), 169L << 48);
        due("no call is left", run.left(), 0);
    }

    private static void dearestCallsUpToTheLastOne() {
        for (String dearest : new String[] {"recover", "compact"}) {
            Run run = full(0);
            int generation = 1;
            while (run.left() > 1) {
                due(dearest, dearest.equals("recover") ? run.recover() : run.compact(), 16);
                generation += dearest.equals("compact") ? 1 : 0;
            }
            due("generation by the 512th call", run.look(GENERATION), generation);
        }
    }

    // ---- the disk

    private static void firstAndLastBytesOfTheDisk() {
        byte[] disk = new byte[DISK_BYTES];
        disk[0] = 1;
        disk[511] = 2;
        disk[512] = 3;
        disk[DISK_BYTES - 512] = 4;
        disk[DISK_BYTES - 1] = 5;
        dueDisk("corners", disk, run -> {
            due("0, 0", run.spoil(0, 0, 1), true);
            due("0, 511", run.spoil(0, 511, 2), true);
            due("1, 0", run.spoil(1, 0, 3), true);
            due("63, 0", run.spoil(63, 0, 4), true);
            due("63, 511", run.spoil(63, 511, 5), true);
            due("64, 0", run.spoil(64, 0, 6), false);
            due("0, 512", run.spoil(0, 512, 7), false);
            due("63, 512", run.spoil(63, 512, 8), false);
        });
    }

    private static void noHeadInOtherBlocks() {
        for (int b = 0; b < 64; b++) {
            Run run = new Run().plantHead(b, 5, 0);
            due("a head in block " + b, run.recover(), b < 2 ? 0 : NONE);
        }
        Run run = new Run().spoilAt(12, head(5, 0)).spoilAt(256, head(5, 0));
        due("a head that is not at its block's beginning", run.recover(), NONE);
    }

    private static void firstBytesOfTheHalves() {
        for (int half = 0; half < 2; half++) {
            int block = half == 0 ? 2 : 33;
            Run run = new Run().plantHead(0, 1, half).spoilAt(block * 512, record(7, 8, 9));
            due("a record at the beginning of half " + half, run.recover(), 1);
            due("its bytes", run.record(0, 0), 0x0708090000000000L);
            run = new Run().plantHead(0, 1, half).spoilAt((35 - block) * 512, record(7, 8, 9));
            due("a record in the other half", run.recover(), 0);
            run = new Run().plantHead(0, 1, half).spoilAt(block * 512 - 8, record(7, 8));
            due("a record ahead of the half", run.recover(), 0);
        }
    }

    private static void lastBytesOfTheHalves() {
        for (int half = 0; half < 2; half++) {
            int in = half;
            Story story = run -> {
                run.plantHead(0, 4, in).plantUsed(in, HALF_BYTES - 8).recover();
                run.give(0xA1A2, 2);
                due("append to half " + in, run.append(), 16);
            };
            byte[] disk = new byte[DISK_BYTES];
            put(disk, 0, head(4, half));
            putUsed(disk, half, HALF_BYTES - 8);
            put(disk, (half == 0 ? 33 : 64) * 512 - 8, record(0xA1, 0xA2));
            dueDisk("the last bytes of half " + half, disk, story);
            Run run = told(story);
            due("used", run.look(USED), 15872);
            due("recover", run.recover(), 17);
        }
    }

    private static void checkOfEveryByte() {
        for (int v = 0; v < 256; v++) {
            Run run = formatted();
            run.give(v, 1);
            run.append();
            due("byte " + v, run.block(2, 0), wordOf(record(v), 0));
        }
        for (int length : new int[] {2, 7, 256, 999, 1000}) {
            int[] content = new int[length];
            Run run = formatted();
            for (int i = 0; i < length; i++) {
                content[i] = i * 167 + i / 256 & 255;
            }
            run.tape(content);
            run.append();
            byte[] bytes = Arrays.copyOf(record(content), 1024);
            for (int w = 0; w < 126; w++) {
                due("word " + w + " of " + length + " bytes", run.block(2 + w / 64, w % 64), wordOf(bytes, 8 * w));
            }
            due("recover", run.recover(), 1);
        }
    }

    private static void lowestFirst() {
        Run run = formatted();
        run.put(258, 0);
        due("a length of 258", run.block(2, 0), 0x0201000000000000L);
        int check = checkOf(Arrays.copyOf(new byte[] {2, 1}, 260));
        due("its check", run.block(2, 32) & 0xFFFFFFFFL, Integer.reverseBytes(check) & 0xFFFFFFFFL);
        run = new Run().spoilAt(0, withCheck(new byte[] {74, 49, 0, 0, 4, 3, 2, 1}));
        due("recover", run.recover(), 0);
        due("generation", run.look(GENERATION), 0x01020304);
        run.compact();
        due("the next head", run.block(1, 0), 0x4A31010005030201L);
    }

    // ---- heads

    private static void everyBeginningOfAHead() {
        for (int k = 0; k < 4; k++) {
            for (int v = 0; v < 256; v++) {
                byte[] begin = Arrays.copyOf(head(9, 0), 8);
                begin[k] = (byte) v;
                boolean right = v == new int[] {74, 49, 0, 0}[k] || k == 2 && v == 1;
                Run run = new Run().spoilAt(512 * (v % 2), withCheck(begin));
                due("byte " + k + " of the head is " + v, run.recover(), right ? 0 : NONE);
                due("half", run.look(HALF), right && k == 2 ? v : 0);
            }
        }
    }

    private static void boundsOfTheGeneration() {
        int[] right = {1, 2, 128, 255, 256, 32768, 65536, 1 << 24, GREATEST - 1, GREATEST};
        int[] notRight = {0, LEAST, LEAST + 1, -2, -1};
        for (int b = 0; b < 2; b++) {
            for (int generation : right) {
                Run run = new Run().plantHead(b, generation, 1);
                due("generation " + generation, run.recover(), 0);
                due("generation", run.look(GENERATION), generation);
                due("half", run.look(HALF), 1);
            }
            for (int generation : notRight) {
                Run run = new Run().plantHead(b, generation, 1);
                due("generation " + generation, run.recover(), NONE);
                due("generation", run.look(GENERATION), 0);
                due("half", run.look(HALF), 0);
            }
        }
    }

    private static void everyBitOfAHead() {
        for (int b = 0; b < 2; b++) {
            for (int bit = 0; bit < 96; bit++) {
                byte[] head = head(77, 1);
                head[bit / 8] ^= 1 << bit % 8;
                due("without bit " + bit, new Run().spoilAt(512 * b, head).recover(), NONE);
            }
        }
    }

    private static void behindTheHead() {
        Run run = new Run().plantHead(1, 3, 1);
        for (int k = 12; k < 512; k += 3) {
            run.spoil(1, k, 255);
        }
        run.spoil(1, 511, 255);
        due("bytes behind the head", run.recover(), 0);
        due("generation", run.look(GENERATION), 3);
    }

    private static void greaterGeneration() {
        int[][] pairs = {{1, 2}, {127, 128}, {255, 256}, {511, 768}, {65535, 65536}, {0xFFFFFF, 0x1000000},
            {1, GREATEST}, {GREATEST - 1, GREATEST}};
        for (int[] pair : pairs) {
            for (int b = 0; b < 2; b++) {
                Run run = new Run().plantHead(b, pair[0], 0).plantHead(1 - b, pair[1], 1).plant(1, 0, 5);
                due("recover", run.recover(), 1);
                due("generation", run.look(GENERATION), pair[1]);
                due("half", run.look(HALF), 1);
            }
        }
    }

    private static void greaterButNotRight() {
        for (int b = 0; b < 2; b++) {
            byte[] spoiled = head(9, 1);
            spoiled[11] ^= 1;
            Run run = new Run().plantHead(b, 3, 0).spoilAt(512 * (1 - b), spoiled);
            due("a greater one that is spoiled", run.recover(), 0);
            due("generation", run.look(GENERATION), 3);
            run = new Run().plantHead(b, 3, 0).plantHead(1 - b, LEAST + 7, 1);
            due("one of 2^31 or more", run.recover(), 0);
            due("generation", run.look(GENERATION), 3);
        }
    }

    private static void alikeGenerations() {
        for (int generation : new int[] {1, 2, GREATEST}) {
            for (int half = 0; half < 2; half++) {
                Run run = new Run().plantHead(0, generation, half).plantHead(1, generation, 1 - half);
                due("recover", run.recover(), 0);
                due("half of block 0", run.look(HALF), half);
            }
        }
    }

    // ---- records

    private static void boundsOfTheLength() {
        int[][] cases = {{0, 0}, {1, 1}, {2, 1}, {999, 1}, {1000, 1}, {1001, 0}, {1002, 0}, {1024, 0}, {1256, 0},
            {15866, 0}};
        for (int half = 0; half < 2; half++) {
            for (int[] c : cases) {
                Run run = new Run().plantHead(0, 1, half).plant(half, 0, c[0]);
                due("a length of " + c[0], run.recover(), c[1]);
                due("its length", run.length(0), c[1] == 1 ? c[0] : NONE);
            }
            for (int high = 3; high < 256; high++) {
                Run run = new Run().plantHead(0, 1, half).spoilAt(placeOf(half), new byte[] {-1, (byte) high});
                due("a length of " + (255 + 256 * high), run.recover(), 0);
            }
        }
    }

    private static void everyBitOfARecord() {
        for (int bit = 0; bit < 72; bit++) {
            byte[] bytes = record(0x31, 0x62, 0xC4);
            bytes[bit / 8] ^= 1 << bit % 8;
            Run run = formattedDown().spoilAt(1024, bytes);
            due("without bit " + bit, run.recover(), 0);
            due("used", run.look(USED), 0);
        }
        Run run = formattedDown().spoilAt(1024, record(0x31, 0x62, 0xC4));
        due("with every bit", run.recover(), 1);
        due("used", run.look(USED), 10);
    }

    private static void checksOfSomethingElse() {
        byte[] content = {5, 6, 7, 8};
        byte[] withoutLength = new byte[10];
        withoutLength[0] = 4;
        put(withoutLength, 2, withCheck(content));
        due("a check without the length", formattedDown().spoilAt(1024, withoutLength).recover(), 0);
        byte[] turned = record(5, 6, 7, 8);
        byte[] check = Arrays.copyOfRange(turned, 6, 10);
        put(turned, 6, new byte[] {check[3], check[2], check[1], check[0]});
        due("a check with the highest first", formattedDown().spoilAt(1024, turned).recover(), 0);
        byte[] odd = new byte[10];
        put(odd, 0, withCheck(new byte[] {3, 0, 5, 6, 7, 0}));
        due("a check with the byte of an odd length", formattedDown().spoilAt(1024, odd).recover(), 0);
    }

    private static void oddAndEvenSizes() {
        int[][] cases = {{1, 8}, {2, 8}, {3, 10}, {4, 10}, {503, 510}, {504, 510}, {999, 1006}, {1000, 1006}};
        for (int[] c : cases) {
            Run run = formatted();
            run.put(c[0], 1);
            due("used by " + c[0], run.look(USED), c[1]);
            due("recover", run.recover(), 1);
            due("used by " + c[0], run.look(USED), c[1]);
        }
    }

    private static void oddByteIsWritten() {
        Run run = formattedDown().spoilAt(1024 + 7, new byte[] {-1});
        due("recover", run.recover(), 0);
        run.give(3, 1);
        run.append();
        due("by append", run.block(2, 0) & 255, 0);
        run.crash();
        run.spoil(2, 7, 255);
        due("recover", run.recover(), 1);
        due("spoiled", run.block(2, 0) & 255, 255);
        due("compact", run.compact(), 1);
        due("by compact", run.block(33, 0) & 255, 0);
    }

    private static void oddByteIsRead() {
        for (int v = 0; v < 256; v++) {
            byte[] first = record(0x11);
            first[7] = (byte) v;
            Run run = formattedDown().spoilAt(1024, first).spoilAt(1032, record(0x22, 0x33));
            due("an odd byte of " + v, run.recover(), 2);
            due("used", run.look(USED), 16);
            due("the first record", run.record(0, 0), 0x11L << 56);
            due("the second record", run.record(1, 0), 0x2233L << 48);
        }
        for (int half = 0; half < 2; half++) {
            Run run = new Run().plantHead(0, 1, half).plantUsed(half, HALF_BYTES - 8)
                .spoilAt(placeOf(half) + HALF_BYTES - 8, record(0x77));
            run.spoil(half == 0 ? 32 : 63, 511, 255);
            due("the last byte of the half", run.recover(), 17);
        }
    }

    private static void nothingBehindTheEnd() {
        Run run = formattedDown().spoilAt(1024, record(1)).spoilAt(1032, record(2)).spoilAt(1040, record(3));
        due("three", run.recover(), 3);
        run.crash();
        run.spoil(2, 10, 9);
        due("the second is spoiled", run.recover(), 1);
        due("used", run.look(USED), 8);
        due("no second", run.length(1), NONE);
        run.crash();
        run.spoil(2, 10, 2);
        due("three again", run.recover(), 3);
        run.crash();
        run.spoil(2, 2, 9);
        due("the first is spoiled", run.recover(), 0);
        run = formattedDown().spoilAt(1024, record(1)).spoilAt(1034, record(2));
        due("two bytes 0 between", run.recover(), 1);
    }

    private static void endOfTheHalf() {
        // How many bytes of the HALF are left, the LENGTH that stands there, and whether that is a record.
        int[][] cases = {{782, 774, 1}, {782, 775, 1}, {782, 776, 1}, {782, 777, 0}, {782, 778, 0}, {782, 1000, 0},
            {1006, 999, 1}, {1006, 1000, 1}, {1004, 998, 1}, {1004, 999, 0}, {1004, 1000, 0}, {8, 1, 1}, {8, 2, 1},
            {8, 3, 0}, {8, 1000, 0}, {6, 1, 0}, {6, 2, 0}, {4, 1, 0}, {2, 1, 0}, {2, 1000, 0}, {0, 1, 0}};
        for (int half = 0; half < 2; half++) {
            for (int[] c : cases) {
                int used = HALF_BYTES - c[0];
                byte[] bytes = record(new int[c[1]]);
                // HALF 1 ends with the disk: what would come behind it can't be there.
                byte[] there = Arrays.copyOf(bytes, half == 0 ? bytes.length : Math.min(bytes.length, c[0]));
                Run run = new Run().plantHead(1, 1, half).plantUsed(half, used);
                int before = run.recover();
                due("used", run.look(USED), used);
                run.crash();
                run.spoilNot0(placeOf(half) + used, there);
                String what = "length " + c[1] + " where " + c[0] + " bytes are left of half " + half;
                due(what, run.recover(), before + c[2]);
                due("used, " + what, run.look(USED), used + c[2] * bytes.length);
            }
        }
    }

    private static void overTheHalf() {
        Run run = new Run().plantHead(1, 1, 0).plantUsed(0, HALF_BYTES).plant(1, 0, 5);
        due("a record of half 1 behind a full half 0", run.recover(), 16);
        due("used", run.look(USED), 15872);
        run = new Run().plantHead(1, 1, 1).plantUsed(1, HALF_BYTES);
        due("a full half 1", run.recover(), 16);
        due("used", run.look(USED), 15872);
    }

    // ---- the journal

    private static void emptyWithoutAHead() {
        Run run = formattedDown();
        run.spoil(1, 0, 73);
        due("recover", run.recover(), NONE);
        due("empty", run.look(STATE), EMPTY);
        run.spoil(1, 0, 74);
        due("the disk is looked at by recover alone", run.look(STATE), EMPTY);
        due("recover", run.recover(), 0);
        due("up", run.look(STATE), UP);
        run.crash();
        due("down", run.look(STATE), DOWN);
    }

    private static void noneAndFull() {
        Run run = formatted();
        due("no records", run.look(RECORDS), 0);
        due("used by none", run.look(USED), 0);
        run = full(1);
        due("records of a full half", run.look(RECORDS), 16);
        due("used", run.look(USED), 15872);
        due("number 15", run.length(15), 776);
        due("number 16", run.length(16), NONE);
        run = formatted();
        run.put(5, 1);
        due("the first number", run.length(0), 5);
        run.put(6, 1);
        due("the second number", run.length(1), 6);
        due("used", run.look(USED), 24);
    }

    private static void notUp() {
        Story[] ends = {Run::crash, run -> crashAppend(run, 0), run -> crashCompact(run, 1), run -> {
            run.crash();
            run.spoilAt(0, new byte[12]).spoilAt(512, new byte[12]).recover();
        }};
        for (int i = 0; i < ends.length; i++) {
            Run run = formatted();
            run.put(5, 1);
            run.put(6, 1);
            run.compact();
            run.mark(1, true);
            due("half 1", run.look(HALF), 1);
            ends[i].tell(run);
            due("state by way " + i, run.look(STATE), i < 3 ? DOWN : EMPTY);
            for (int which : new int[] {RECORDS, USED, GENERATION, HALF, MARKED}) {
                due("look " + which + " by way " + i, run.look(which), 0);
            }
            due("length by way " + i, run.length(0), NONE);
            due("record by way " + i, run.record(0, 0), 0);
            due("mark by way " + i, run.mark(0, true), false);
        }
    }

    // ---- writes

    private static void wholeBlocks() {
        Story story = run -> {
            run.format();
            run.crash();
            for (int k = 16; k < 512; k += 31) {
                run.spoil(0, k, 255);
                run.spoil(2, k, 255);
                run.spoil(33, k, 255);
            }
            run.recover();
            run.give(0x41, 1);
            run.append();
            run.compact();
        };
        byte[] disk = new byte[DISK_BYTES];
        put(disk, 0, head(2, 1));
        put(disk, 512, head(1, 0));
        put(disk, placeOf(0), record(0x41));
        put(disk, placeOf(1), record(0x41));
        dueDisk("nothing of the old blocks", disk, story);
    }

    private static void crashAtOnce() {
        Story story = run -> {
            run.format();
            run.put(4, 1);
            run.give(1, 4);
            run.crashIn(0);
        };
        for (int i = 0; i < 2; i++) {
            Story call = i == 0 ? run -> run.append() : run -> run.compact();
            dueDisk("nothing is written", diskOf(story), both(story, call));
            Run run = told(both(story, call));
            dueLooks(run, 0, 0, 0, 0, DOWN, 1, i == 0 ? 0 : 4, NONE, 0);
            due("recover", run.recover(), 1);
            run.wipe();
            due("none is due any more", run.put(1, 1), 1);
        }
    }

    private static void crashLater() {
        Run run = formatted();
        run.crashIn(1000);
        run.put(1, 1);
        due("of 1000, by a block", run.look(DUE), 999);
        run.put(1000, 1);
        due("of 999, by two blocks", run.look(DUE), 997);
        run.compact();
        due("of 997, by two blocks and a head", run.look(DUE), 994);
        run.crashIn(1);
        run.put(1, 1);
        due("the last one ahead of the crash", run.look(DUE), 0);
        due("up", run.look(STATE), UP);
        run.recover();
        run.put(1, 1);
        due("without one it stays so", run.look(DUE), NONE);
    }

    private static void appendFromTheBeginning() {
        int[][] cases = {{0, 1, 1}, {0, 2, 1}, {0, 502, 1}, {0, 503, 1}, {0, 504, 1}, {0, 505, 2}, {0, 506, 2},
            {0, 507, 2}, {0, 999, 2}, {0, 1000, 2}};
        dueAppends(cases);
    }

    private static void appendAtBlockBorders() {
        int[][] cases = {{8, 1, 1}, {502, 1, 1}, {502, 2, 1}, {504, 1, 2}, {504, 2, 2}, {506, 1, 2}, {508, 1, 2},
            {510, 1, 2}, {510, 1000, 3}, {510, 504, 2}, {510, 508, 3}, {512, 1, 1}, {512, 504, 1}, {512, 505, 2},
            {512, 1000, 2}, {514, 502, 1}, {514, 504, 2}, {1022, 1000, 3}};
        dueAppends(cases);
    }

    private static void appendAtTheEndOfTheHalf() {
        int[][] cases = {{15864, 1, 1}, {15864, 2, 1}, {15862, 2, 1}, {15862, 3, 1}, {15862, 4, 1}, {15860, 1, 1},
            {15352, 2, 2}, {15352, 512, 2}, {15360, 506, 1}, {15360, 504, 1}, {15090, 774, 2}, {15090, 776, 2},
            {14866, 1000, 2}, {14866, 999, 2}};
        dueAppends(cases);
    }

    /** What is USED, the LENGTH of the record behind it, and how many blocks these lie in. */
    private static void dueAppends(int[][] cases) {
        for (int half = 0; half < 2; half++) {
            for (int[] c : cases) {
                for (int n = NONE; n <= c[2]; n++) {
                    dueAppend(half, c[0], c[1], c[2], n);
                }
            }
        }
    }

    private static void dueAppend(int half, int used, int length, int blocks, int crashIn) {
        String what = length + " bytes behind " + used + " of half " + half + ", crash in " + crashIn;
        Story before = run -> {
            run.plantHead(0, 6, half).plantUsed(half, used).spoilBehind(half, used).recover();
            run.tape(filled(length, 0xE7));
            run.crashIn(crashIn);
        };
        boolean crashes = crashIn >= 0 && crashIn < blocks;
        byte[] want = diskOf(before);
        byte[] halfBytes = new byte[HALF_BYTES + 2];
        System.arraycopy(want, placeOf(half), halfBytes, 0, used);
        byte[] bytes = record(filled(length, 0xE7));
        put(halfBytes, used, bytes);
        int last = (Math.min(used + bytes.length + 2, HALF_BYTES) - 1) / 512;
        due("blocks, " + what, last - used / 512 + 1, blocks);
        for (int i = 0; i < (crashes ? crashIn : blocks); i++) {
            int at = (last - i) * 512;
            System.arraycopy(halfBytes, at, want, placeOf(half) + at, 512);
        }
        Story story = both(before, run -> due(what, run.append() < 0, crashes));
        dueDisk(what, want, story);
        Run run = told(story);
        due("written, " + what, run.look(WRITTEN), crashes ? crashIn : blocks);
        due("due, " + what, run.look(DUE), crashes || crashIn < 0 ? NONE : crashIn - blocks);
        run.recover();
        due("used, " + what, run.look(USED), used + (crashes ? 0 : bytes.length));
    }

    private static void crashesOfAppend() {
        for (int n = 0; n < 4; n++) {
            Run run = formatted();
            run.put(504, 3);
            run.tape(filled(1000, 4));
            run.crashIn(n);
            due("append", run.append(), n < 3 ? NONE : 1);
            due("block 4 at " + n, run.block(4, 0) != 0, n >= 1);
            due("block 3 at " + n, run.block(3, 0) != 0, n >= 2);
            due("block 2 at " + n, (run.block(2, 63) & 0xFFFF) != 0, n >= 3);
            due("recover at " + n, run.recover(), n < 3 ? 1 : 2);
        }
    }

    private static void nothingComesBackBehindAppend() {
        // Where a whole record stands behind the one that comes, it must not be there by that.
        for (int used : new int[] {0, 504, 512, 15856}) {
            Run run = formattedDown().plantUsed(0, used).spoilAt(placeOf(0) + used + 8, record(0x66));
            int before = run.recover();
            run.give(0x55, 1);
            due("append behind " + used, run.append(), before);
            due("recover behind " + used, run.recover(), before + 1);
            due("used", run.look(USED), used + 8);
        }
    }

    private static void nothingOfEarlierRecordsByAppend() {
        for (int length : new int[] {1, 2, 503, 504, 505, 506, 514}) {
            byte[] disk = new byte[DISK_BYTES];
            put(disk, 512, head(1, 0));
            put(disk, placeOf(0), record(filled(length, 0x21)));
            dueDisk("of one that was not written, by " + length + " bytes", disk, run -> {
                run.format();
                crashAppend(run, 0);
                run.recover();
                due("append", run.put(length, 0x21), 0);
            });
            dueDisk("of one ahead of format, by " + length + " bytes", disk, run -> {
                run.format();
                run.put(1000, 0x31);
                run.compact();
                run.format();
                due("append", run.put(length, 0x21), 0);
            });
        }
    }

    private static void nothingOfEarlierRecordsAtTheEnd() {
        for (int half = 0; half < 2; half++) {
            int in = half;
            byte[] disk = new byte[DISK_BYTES];
            put(disk, 0, head(1, half));
            putUsed(disk, half, 15362);
            put(disk, placeOf(half) + 15362, record(0x21));
            dueDisk("at the end of half " + half, disk, run -> {
                run.plantHead(0, 1, in).plantUsed(in, 15362).recover();
                crashAppendOf(run, 504, 0);
                run.recover();
                due("append", run.put(1, 0x21), 16);
            });
        }
    }

    private static void nothingOfEarlierRecordsByCompact() {
        for (int length : new int[] {0, 1, 504, 506}) {
            byte[] disk = new byte[DISK_BYTES];
            put(disk, 0, head(2, 1));
            put(disk, 512, head(1, 0));
            put(disk, placeOf(0), record(filled(1000, 0x31)));
            if (length > 0) {
                put(disk, placeOf(0) + 1006, record(filled(length, 0x21)));
                put(disk, placeOf(1), record(filled(length, 0x21)));
            }
            dueDisk("by " + length + " bytes", disk, run -> {
                run.format();
                run.put(1000, 0x31);
                if (length > 0) {
                    run.put(length, 0x21);
                }
                crashCompact(run, 0);
                run.recover();
                run.mark(0, true);
                due("compact", run.compact(), length > 0 ? 1 : 0);
            });
        }
    }

    private static void compactAtBlockBorders() {
        int[][] cases = {{8, 1}, {502, 1}, {510, 1}, {512, 2}, {514, 2}, {1022, 2}, {1024, 3}, {1026, 3}, {2048, 5}};
        for (int half = 0; half < 2; half++) {
            for (int[] c : cases) {
                for (int n = NONE; n <= c[1] + 1; n++) {
                    dueCompact(half, c[0], c[1], n);
                }
            }
        }
    }

    private static void compactOfAFullHalf() {
        int[][] cases = {{15872, 31}, {15870, 31}, {15360, 31}, {15358, 30}};
        for (int half = 0; half < 2; half++) {
            for (int[] c : cases) {
                for (int n : new int[] {NONE, 0, 1, c[1] - 1, c[1], c[1] + 1}) {
                    dueCompact(half, c[0], c[1], n);
                }
            }
        }
    }

    private static void compactOfNothing() {
        for (int half = 0; half < 2; half++) {
            for (int n = NONE; n < 3; n++) {
                dueCompact(half, 0, 1, n);
            }
        }
        Run run = formatted();
        run.put(5, 1);
        run.put(1000, 1);
        run.mark(0, true);
        run.mark(1, true);
        int written = run.look(WRITTEN);
        due("all of them are marked", run.compact(), 0);
        dueLooks(run, 0, 0, 2, 1, UP, written + 2, 0, NONE, 0);
        due("recover", run.recover(), 0);
    }

    /** That many bytes of records are there, and come to the other HALF, where something else stands. */
    private static void dueCompact(int half, int used, int blocks, int crashIn) {
        String what = "compact of " + used + " in half " + half + ", crash in " + crashIn;
        Story before = run -> {
            run.plantHead(1, 7, half).plantUsed(half, used).spoilBehind(1 - half, 0);
            run.spoil(0, 0, 74);
            run.spoil(0, 12, 255);
            run.spoil(0, 511, 255);
            run.recover();
            run.crashIn(crashIn);
        };
        boolean crashes = crashIn >= 0 && crashIn <= blocks;
        int written = crashes ? crashIn : blocks + 1;
        byte[] want = diskOf(before);
        byte[] image = Arrays.copyOf(Arrays.copyOfRange(want, placeOf(half), placeOf(half) + used), HALF_BYTES);
        System.arraycopy(image, 0, want, placeOf(1 - half), Math.min(written, blocks) * 512);
        if (!crashes) {
            put(want, 0, Arrays.copyOf(head(8, 1 - half), 512));
        }
        Story story = both(before, run -> due(what, run.compact() < 0, crashes));
        dueDisk(what, want, story);
        Run run = told(story);
        due("written, " + what, run.look(WRITTEN), written);
        due("due, " + what, run.look(DUE), crashes || crashIn < 0 ? NONE : crashIn - blocks - 1);
        run.recover();
        due("used, " + what, run.look(USED), used);
        due("generation, " + what, run.look(GENERATION), crashes ? 7 : 8);
        due("half, " + what, run.look(HALF), crashes ? half : 1 - half);
    }

    private static void crashesOfCompact() {
        for (int n = 0; n < 4; n++) {
            Run run = formatted();
            run.put(600, 3);
            run.put(8, 4);
            run.mark(1, true);
            run.crashIn(n);
            due("compact", run.compact(), n < 3 ? NONE : 1);
            due("block 33 at " + n, run.block(33, 0) != 0, n >= 1);
            due("block 34 at " + n, run.block(34, 0) != 0, n >= 2);
            due("block 0 at " + n, run.block(0, 0) != 0, n >= 3);
            due("recover at " + n, run.recover(), n < 3 ? 2 : 1);
        }
    }

    private static void blocksOfTheHeads() {
        // The block of the HEAD that counts, its GENERATION, and the block of the next one.
        int[][] cases = {{1, 1, 0}, {0, 2, 1}, {0, 1, 0}, {1, 2, 1}, {1, GREATEST - 2, 0}, {0, GREATEST - 1, 1},
            {1, GREATEST - 1, 1}};
        for (int[] c : cases) {
            for (int half = 0; half < 2; half++) {
                Run run = new Run().plantHead(c[0], c[1], half);
                run.recover();
                due("compact", run.compact(), 0);
                byte[] want = Arrays.copyOf(head(c[1] + 1, 1 - half), 16);
                due("the head behind " + c[1], run.block(c[2], 0), wordOf(want, 0));
                due("its check", run.block(c[2], 1), wordOf(want, 8));
                byte[] old = c[0] == c[2] ? new byte[8] : head(c[1], half);
                due("the other head", run.block(1 - c[2], 0), wordOf(old, 0));
                due("recover", run.recover(), 0);
                due("generation", run.look(GENERATION), c[1] + 1);
            }
        }
    }

    private static void recordsOfCompact() {
        for (int marks = 0; marks < 16; marks++) {
            Run run = formatted();
            List<Integer> left = new ArrayList<>();
            for (int i = 0; i < 4; i++) {
                run.put(3 + i, 0x10 + i);
            }
            for (int i = 0; i < 4; i++) {
                if ((marks >> i & 1) == 1) {
                    run.mark(i, true);
                } else {
                    left.add(i);
                }
            }
            due("compact", run.compact(), left.size());
            due("marked", run.look(MARKED), 0);
            for (int i = 0; i < left.size(); i++) {
                due("length", run.length(i), 3 + left.get(i));
                due("bytes", run.record(i, 0) >>> 56, 0x10 + left.get(i));
            }
            due("no more", run.length(left.size()), NONE);
            due("nothing is marked", run.compact(), left.size());
            due("half", run.look(HALF), 0);
        }
    }

    // ---- calls

    private static void crashesAnswerNone() {
        for (int n = 0; n < 3; n++) {
            Run run = formatted();
            run.put(504, 1);
            crashAppend(run, n);
            run = formatted();
            run.put(600, 1);
            crashCompact(run, n);
        }
    }

    private static void refusedBeforeUp() {
        Story empty = run -> {
            run.spoil(5, 5, 5);
            run.give(7, 2);
            run.crashIn(3);
        };
        Story down = run -> {
            run.format();
            run.put(600, 1);
            run.put(7, 2);
            run.mark(0, true);
            run.compact();
            run.tape(filled(999, 1));
            run.crashIn(0);
            run.crash();
        };
        for (Story story : Arrays.asList(empty, down)) {
            dueNoChange(story, run -> due("append", run.append(), STATE_EXCEPTION));
            dueNoChange(story, run -> due("compact", run.compact(), STATE_EXCEPTION));
            dueNoChange(story, run -> due("mark", run.mark(0, true), false));
            dueNoChange(story, run -> due("crashIn", run.crashIn(1001), false));
            dueNoChange(story, run -> due("give", run.give(-1, 0), false));
            dueNoChange(story, run -> due("give", run.give(-1, 9), false));
            dueNoChange(story, run -> due("spoil", run.spoil(64, 0, -1), false));
            dueNoChange(story, run -> due("spoil", run.spoil(-1, 511, -1), false));
            dueNoChange(story, run -> due("spoil", run.spoil(0, 512, -1), false));
            dueNoChange(story, run -> due("spoil", run.spoil(1, -1, -1), false));
        }
        dueNoChange(down, run -> due("give", run.give(-1, 2), false));
    }

    private static void refusedWhileUp() {
        Story up = run -> {
            run.format();
            run.put(600, 1);
            run.put(7, 2);
            run.put(8, 2);
            run.mark(1, true);
            run.crashIn(2);
        };
        dueNoChange(up, run -> due("append", run.append(), ARGUMENT_EXCEPTION));
        dueNoChange(up, run -> due("mark", run.mark(3, true), false));
        dueNoChange(up, run -> due("mark", run.mark(-1, false), false));
        dueNoChange(up, run -> due("crashIn", run.crashIn(GREATEST), false));
        dueNoChange(up, run -> due("spoil", run.spoil(2, 3, -1), false));
        dueNoChange(up, run -> due("spoil", run.spoil(63, 511, -1), false));
        Story taped = both(up, run -> run.tape(filled(993, 5)));
        dueNoChange(taped, run -> due("give", run.give(-1, 8), false));
        Story last = run -> {
            run.plantHead(1, GREATEST, 1).plantUsed(1, 20).recover();
            run.give(7, 2);
            run.mark(0, true);
            run.crashIn(0);
        };
        dueNoChange(last, run -> due("compact", run.compact(), UNSUPPORTED_EXCEPTION));
    }

    private static void refusedWhileFull() {
        Story full = run -> {
            run.plantHead(1, 1, 0).plantUsed(0, HALF_BYTES - 8).spoilAt(placeOf(1), record(1)).recover();
            run.tape(3, 4, 5);
            run.mark(15, true);
            run.crashIn(0);
        };
        dueNoChange(full, run -> due("append", run.append(), UNSUPPORTED_EXCEPTION));
    }

    private static void severalExceptions() {
        due("not up, tape empty", new Run().append(), STATE_EXCEPTION);
        Run run = formattedDown();
        due("down, tape empty", run.append(), STATE_EXCEPTION);
        run = full(0);
        due("tape empty, no room", run.append(), ARGUMENT_EXCEPTION);
        run.crash();
        due("down, tape empty, no room", run.append(), STATE_EXCEPTION);
        run.give(1, 1);
        due("down, no room", run.append(), STATE_EXCEPTION);
        run = new Run().plantHead(0, GREATEST, 0);
        run.recover();
        due("no greater generation", run.compact(), UNSUPPORTED_EXCEPTION);
        run.crash();
        due("down, no greater generation", run.compact(), STATE_EXCEPTION);
    }

    // ---- promises 1 to 4

    private static void formatClearsTheDisk() {
        byte[] disk = new byte[DISK_BYTES];
        put(disk, 512, head(1, 0));
        dueDisk("a new disk", disk, Run::format);
        dueDisk("a disk with something everywhere", disk, run -> {
            run.plantHead(0, 9, 1).plantHead(1, 8, 0).spoilBehind(0, 0).spoilBehind(1, 0);
            run.spoil(1, 12, 255);
            run.spoil(1, 511, 255);
            run.spoil(0, 511, 255);
            run.format();
        });
        dueDisk("full halves", disk, run -> {
            run.plantHead(0, 9, 1).plantUsed(1, HALF_BYTES).plantUsed(0, HALF_BYTES).recover();
            run.format();
        });
    }

    private static void formatFromEveryState() {
        Story[] befores = {run -> { }, run -> run.crash(), run -> {
            run.plantHead(0, 9, 1).plantUsed(1, 24).recover();
            run.mark(0, true);
        }};
        for (Story before : befores) {
            Run run = told(before);
            run.crashIn(0);
            run.format();
            dueLooks(run, 0, 0, 1, 0, UP, 0, 0, NONE, 0);
            due("no record", run.length(0), NONE);
            due("recover", run.recover(), 0);
            dueLooks(run, 0, 0, 1, 0, UP, 0, 0, NONE, 0);
            due("the first record", run.put(1, 1), 0);
        }
        Run run = formatted();
        run.put(1000, 1);
        run.format();
        due("what was written before stays counted", run.look(WRITTEN), 2);
    }

    private static void giveEachLength() {
        for (int n = 1; n <= 8; n++) {
            Run run = formatted();
            due("give", run.give(0x8192A3B4C5D6E7F8L, n), true);
            due("tape", run.look(TAPE), n);
            run.append();
            due("length", run.length(0), n);
            due("bytes of " + n, run.record(0, 0), 0x8192A3B4C5D6E7F8L << 64 - 8 * n);
        }
        Run run = formatted();
        run.give(-1, 3);
        run.give(0x0102, 1);
        run.give(Long.MIN_VALUE, 8);
        run.append();
        due("one behind the other", run.record(0, 0), 0xFFFFFF0280000000L);
        due("up to the end", run.record(0, 1), 0);
        due("length", run.length(0), 12);
    }

    private static void giveOtherLengths() {
        Run run = new Run();
        run.give(1, 1);
        for (int n : new int[] {0, 9, -1, -8, 16, 257, LEAST, LEAST + 1, GREATEST}) {
            due("give " + n, run.give(-1, n), false);
            due("tape", run.look(TAPE), 1);
        }
    }

    private static void giveToAFullTape() {
        for (int n = 1; n <= 8; n++) {
            Run run = formatted();
            run.tape(filled(1000 - n, 1));
            due(n + 1 + " where " + n + " are left", run.give(-1, n + 1), false);
            due("tape", run.look(TAPE), 1000 - n);
            due(n + " where " + n + " are left", run.give(-1, n), true);
            due("tape", run.look(TAPE), 1000);
            due("1 where none is left", run.give(-1, 1), false);
            due("8 where none is left", run.give(-1, 8), false);
            due("tape", run.look(TAPE), 1000);
            due("append", run.append(), 0);
            due("length", run.length(0), 1000);
            due("the last bytes", run.record(0, 124), 0x0101010101010101L | -1L >>> 64 - 8 * n);
        }
    }

    private static void wipeEmptyAndFull() {
        Run run = formatted();
        run.wipe();
        due("an empty one", run.look(TAPE), 0);
        run.tape(filled(1000, 9));
        run.wipe();
        due("a full one", run.look(TAPE), 0);
        due("append", run.append(), ARGUMENT_EXCEPTION);
        due("there is room again", run.give(5, 8), true);
        run.append();
        due("nothing of it is left", run.length(0), 8);
        due("bytes", run.record(0, 0), 5);
        run = new Run();
        run.give(1, 1);
        run.wipe();
        due("while empty", run.look(TAPE), 0);
        run.crash();
        run.give(1, 1);
        run.wipe();
        due("while down", run.look(TAPE), 0);
    }

    // ---- promises 5 to 7

    private static void tapeOfAppend() {
        Run run = formatted();
        for (int i = 0; i < 20; i++) {
            run.give(i, 1);
            due("number", run.append(), i);
            due("tape", run.look(TAPE), 0);
        }
        run.tape(filled(1000, 1));
        run.crashIn(1);
        due("crash", run.append(), NONE);
        due("tape behind a crash", run.look(TAPE), 0);
        run.recover();
        due("append behind a crash", run.append(), ARGUMENT_EXCEPTION);
        due("the next number", run.put(2, 2), 20);
        run.mark(0, true);
        run.compact();
        due("the next number behind compact", run.put(2, 2), 20);
    }

    private static void appendIsRefused() {
        Run run = new Run();
        run.give(1, 2);
        due("while empty", run.append(), STATE_EXCEPTION);
        run.crash();
        due("while down", run.append(), STATE_EXCEPTION);
        run.format();
        due("the tape was left", run.append(), 0);
        due("an empty tape", run.append(), ARGUMENT_EXCEPTION);
        due("again", run.append(), ARGUMENT_EXCEPTION);
        due("length", run.length(0), 2);
    }

    private static void noRoom() {
        // How many bytes of the HALF are left, the LENGTH that comes, and whether there is room.
        int[][] cases = {{8, 1, 1}, {8, 2, 1}, {8, 3, 0}, {8, 1000, 0}, {6, 1, 0}, {4, 1, 0}, {2, 1, 0}, {0, 1, 0},
            {0, 1000, 0}, {1006, 1000, 1}, {1006, 999, 1}, {1004, 999, 0}, {1004, 1000, 0}, {1004, 998, 1},
            {512, 506, 1}, {512, 505, 1}, {512, 507, 0}};
        for (int half = 0; half < 2; half++) {
            for (int[] c : cases) {
                Run run = new Run().plantHead(0, 3, half).plantUsed(half, HALF_BYTES - c[0]);
                int records = run.recover();
                run.tape(filled(c[1], 1));
                String what = c[1] + " bytes where " + c[0] + " are left of half " + half;
                due(what, run.append(), c[2] == 1 ? records : UNSUPPORTED_EXCEPTION);
                due("tape, " + what, run.look(TAPE), c[2] == 1 ? 0 : c[1]);
                due("records, " + what, run.look(RECORDS), records + c[2]);
                due("recover, " + what, run.recover(), records + c[2]);
            }
        }
        Run run = full(0);
        run.give(1, 1);
        due("full", run.append(), UNSUPPORTED_EXCEPTION);
        run.compact();
        due("full on the other half too", run.append(), UNSUPPORTED_EXCEPTION);
        run.mark(15, true);
        run.compact();
        due("room by compact", run.append(), 15);
    }

    private static void markAndMarkAgain() {
        Run run = formatted();
        run.put(1, 1);
        run.put(2, 2);
        due("no more, without a mark", run.mark(0, false), true);
        due("marked", run.look(MARKED), 0);
        due("the first", run.mark(0, true), true);
        due("again", run.mark(0, true), true);
        due("marked", run.look(MARKED), 1);
        due("the last", run.mark(1, true), true);
        due("marked", run.look(MARKED), 2);
        due("no more", run.mark(0, false), true);
        due("no more, again", run.mark(0, false), true);
        due("marked", run.look(MARKED), 1);
        run.put(3, 3);
        due("append marks nothing", run.look(MARKED), 1);
        due("compact", run.compact(), 2);
        due("the one that was marked is gone", run.length(1), 3);
        run.mark(1, true);
        run.crash();
        run.recover();
        run.put(4, 4);
        due("nothing is marked", run.compact(), 3);
    }

    private static void markNone() {
        Run run = formatted();
        due("no record", run.mark(0, true), false);
        run.put(1, 1);
        for (int i : new int[] {-1, 1, 2, 1983, 1984, LEAST, GREATEST}) {
            due("mark " + i, run.mark(i, true), false);
            due("no more " + i, run.mark(i, false), false);
        }
        due("marked", run.look(MARKED), 0);
        run.crash();
        due("while down", run.mark(0, true), false);
        due("while empty", new Run().mark(0, true), false);
    }

    private static void compactCountsOrIsRefused() {
        Run run = new Run();
        due("while empty", run.compact(), STATE_EXCEPTION);
        run.format();
        due("no records", run.compact(), 0);
        run.put(1, 1);
        due("one", run.compact(), 1);
        run.mark(0, true);
        due("none is left", run.compact(), 0);
        run.crash();
        due("while down", run.compact(), STATE_EXCEPTION);
    }

    private static void greatestGeneration() {
        Run run = new Run().plantHead(0, GREATEST - 1, 1).plant(1, 0, 5);
        due("recover", run.recover(), 1);
        due("to the greatest one", run.compact(), 1);
        due("generation", run.look(GENERATION), GREATEST);
        due("half", run.look(HALF), 0);
        due("no greater one", run.compact(), UNSUPPORTED_EXCEPTION);
        due("append goes on", run.put(3, 3), 1);
        due("recover", run.recover(), 2);
        due("no greater one", run.compact(), UNSUPPORTED_EXCEPTION);
        run.format();
        due("format begins anew", run.compact(), 0);
        due("generation", run.look(GENERATION), 2);
    }

    // ---- promises 8 to 11

    private static void crashInBelowAndAbove0() {
        for (int n : new int[] {0, 1, 999, 1000}) {
            Run run = new Run();
            due("crashIn " + n, run.crashIn(n), true);
            due("due", run.look(DUE), n);
        }
        for (int n : new int[] {-1, -2, -1000, LEAST}) {
            Run run = formatted();
            run.crashIn(0);
            due("crashIn " + n, run.crashIn(n), true);
            due("due", run.look(DUE), NONE);
            due("append", run.put(1, 1), 0);
        }
    }

    private static void crashInAbove1000() {
        Run run = formatted();
        for (int n : new int[] {1001, 1002, 65536, GREATEST}) {
            due("crashIn " + n, run.crashIn(n), false);
            due("none is due", run.look(DUE), NONE);
        }
        run.crashIn(4);
        due("crashIn 1001", run.crashIn(1001), false);
        due("the one before stays", run.look(DUE), 4);
        due("crashIn 2", run.crashIn(2), true);
        due("a new one takes its place", run.look(DUE), 2);
    }

    private static void crashFromEveryState() {
        Run run = new Run();
        run.crash();
        due("from empty", run.look(STATE), DOWN);
        run.crash();
        due("from down", run.look(STATE), DOWN);
        run.format();
        run.crash();
        due("from up", run.look(STATE), DOWN);
        due("none is due", run.look(DUE), NONE);
        for (int n : new int[] {0, 1, 1000}) {
            run = formatted();
            run.put(3, 3);
            run.give(1, 5);
            run.crashIn(n);
            run.crash();
            dueLooks(run, 0, 0, 0, 0, DOWN, 1, 5, n, 0);
        }
        Story before = full -> full.plantHead(0, 9, 1).plantUsed(1, 600).recover();
        dueDisk("the disk stays", diskOf(before), both(before, Run::crash));
    }

    private static void recoverFromEveryState() {
        Run run = new Run();
        due("from empty, to empty", run.recover(), NONE);
        run.crash();
        due("from down, to empty", run.recover(), NONE);
        due("empty", run.look(STATE), EMPTY);
        run.plantHead(1, 1, 0);
        due("from empty, to up", run.recover(), 0);
        due("up", run.look(STATE), UP);
        due("from up, to up", run.recover(), 0);
        run.crash();
        run.plant(0, 0, 6);
        due("what was spoiled is seen", run.recover(), 1);
        run.crash();
        run.spoil(2, 3, 1);
        run.spoil(1, 3, 1);
        due("from down, to empty", run.recover(), NONE);
        due("nothing is written", run.look(WRITTEN), 0);
        Story before = story -> story.plantHead(0, 9, 1).plantUsed(1, 600).spoilBehind(1, 600).crash();
        dueDisk("the disk stays", diskOf(before), both(before, Run::recover));
    }

    private static void recoverForgets() {
        Run run = formatted();
        run.put(3, 3);
        run.put(4, 4);
        run.mark(0, true);
        run.mark(1, true);
        run.crashIn(0);
        run.give(1, 6);
        due("while up", run.recover(), 2);
        dueLooks(run, 2, 20, 1, 0, UP, 2, 6, NONE, 0);
        due("compact keeps both", run.compact(), 2);
        run.crash();
        run.crashIn(7);
        due("while down", run.recover(), 2);
        due("none is due", run.look(DUE), NONE);
        run = new Run();
        run.crashIn(7);
        due("while empty", run.recover(), NONE);
        due("none is due", run.look(DUE), NONE);
    }

    private static void recoverNoneOrZero() {
        due("no head", new Run().recover(), NONE);
        due("no records", formattedDown().recover(), 0);
        Run run = formattedDown().plant(0, 0, 1);
        run.spoil(1, 4, 2);
        due("records without a head", run.recover(), NONE);
        due("length", run.length(0), NONE);
    }

    private static void spoilEightBits() {
        int[][] cases = {{0, 0}, {1, 1}, {127, 127}, {128, 128}, {255, 255}, {256, 0}, {257, 1}, {-1, 255}, {-128, 128},
            {-129, 127}, {LEAST, 0}, {GREATEST, 255}, {0x12345678, 0x78}};
        for (int[] c : cases) {
            Run run = new Run();
            run.spoil(7, 20, 0x5A);
            due("spoil", run.spoil(7, 20, c[0]), true);
            due("lowest eight bits of " + c[0], run.block(7, 2), (long) c[1] << 24);
            due("nothing is written", run.look(WRITTEN), 0);
        }
        byte[] disk = new byte[DISK_BYTES];
        disk[31 * 512 + 300] = 9;
        dueDisk("one byte alone", disk, run -> run.spoil(31, 300, 9));
    }

    private static void spoilNone() {
        int[][] none = {{-1, 0}, {64, 0}, {0, -1}, {0, 512}, {-1, 512}, {64, -512}, {63, 512}, {1 << 23, 0},
            {-(1 << 23), 0}, {LEAST, 0}, {GREATEST, 0}, {0, LEAST}, {0, GREATEST}, {LEAST, LEAST},
            {GREATEST, GREATEST}};
        dueDisk("nothing", new byte[DISK_BYTES], run -> {
            for (int[] place : none) {
                due("while empty " + Arrays.toString(place), run.spoil(place[0], place[1], 1), false);
            }
            run.crash();
            for (int[] place : none) {
                due("while down " + Arrays.toString(place), run.spoil(place[0], place[1], 1), false);
            }
        });
        Run run = formatted();
        due("while up", run.spoil(63, 511, 1), false);
        due("while up", run.spoil(0, 0, 1), false);
        due("nothing changes", run.block(63, 63) | run.block(0, 0), 0);
        crashAppendOf(run, 1, 0);
        due("behind a crash", run.spoil(63, 511, 1), true);
        run.recover();
        due("behind recover", run.spoil(63, 511, 1), false);
    }

    // ---- promises 12 to 15

    private static void leastAndGreatestLength() {
        Run run = formatted();
        int[] lengths = {1, 1000, 2, 999, 256, 255};
        for (int i = 0; i < lengths.length; i++) {
            run.put(lengths[i], 1);
            due("length", run.length(i), lengths[i]);
        }
        run.recover();
        for (int i = 0; i < lengths.length; i++) {
            due("length behind recover", run.length(i), lengths[i]);
        }
    }

    private static void lengthOfNone() {
        Run run = new Run();
        due("while empty", run.length(0), NONE);
        run.format();
        due("no record", run.length(0), NONE);
        run.put(5, 5);
        for (int i : new int[] {-1, 1, 1983, 1984, LEAST, GREATEST}) {
            due("length of " + i, run.length(i), NONE);
        }
        run.mark(0, true);
        due("a marked one is there", run.length(0), 5);
        run.compact();
        due("behind compact", run.length(0), NONE);
    }

    private static void wordsOfRecords() {
        for (int length : new int[] {1, 7, 8, 9, 15, 16, 17, 999, 1000}) {
            Run run = formatted();
            int[] content = new int[length];
            for (int i = 0; i < length; i++) {
                content[i] = 255 - i % 251;
            }
            run.tape(content);
            run.append();
            run.put(16, 0xFF);
            byte[] bytes = Arrays.copyOf(Arrays.copyOfRange(record(content), 2, 2 + length), 1016);
            for (int k = 0; k < 127; k++) {
                due("word " + k + " of " + length, run.record(0, k), wordOf(bytes, 8 * k));
            }
        }
    }

    private static void wordsBesideRecords() {
        Run run = formatted();
        for (int i = 0; i < 3; i++) {
            run.put(1000, 0xFF);
        }
        for (int k : new int[] {-1, -125, 125, 126, 1984, 4096, 1 << 28, 1 << 29, (1 << 29) + 1, -(1 << 29),
            1 - (1 << 29), LEAST, LEAST + 1, GREATEST, GREATEST - 1}) {
            due("word " + k, run.record(1, k), 0);
        }
        for (int i : new int[] {-1, 3, 1983, 1984, LEAST, GREATEST}) {
            due("record " + i, run.record(i, 0), 0);
            due("record " + i, run.record(i, i), 0);
        }
        run.crash();
        due("while down", run.record(0, 0), 0);
        due("while empty", new Run().record(0, 0), 0);
    }

    private static void wordsOfBlocks() {
        Run run = new Run();
        for (int k = 0; k < 16; k++) {
            run.spoil(9, 496 + k, 0xF0 + k);
            run.spoil(10, k, 0xE0 + k);
        }
        due("the last but one", run.block(9, 62), 0xF0F1F2F3F4F5F6F7L);
        due("the last", run.block(9, 63), 0xF8F9FAFBFCFDFEFFL);
        due("the first", run.block(10, 0), 0xE0E1E2E3E4E5E6E7L);
        due("the second", run.block(10, 1), 0xE8E9EAEBECEDEEEFL);
        due("the third", run.block(10, 2), 0);
        run.spoil(63, 511, 1);
        due("the last of all", run.block(63, 63), 1);
    }

    private static void wordsBesideBlocks() {
        Run run = new Run();
        for (int b : new int[] {0, 1, 10, 11, 12, 62, 63}) {
            for (int k = 0; k < 512; k += 73) {
                run.spoil(b, k, 255);
            }
            run.spoil(b, 511, 255);
        }
        for (int k : new int[] {-1, -64, 64, 65, 128, 1 << 29, (1 << 29) + 63, -(1 << 29), LEAST, GREATEST}) {
            for (int b : new int[] {0, 11, 63}) {
                due("word " + k + " of block " + b, run.block(b, k), 0);
            }
        }
        for (int b : new int[] {-1, -2, 64, 65, 1 << 23, -(1 << 23), (1 << 23) + 1, LEAST, GREATEST}) {
            due("block " + b, run.block(b, 0), 0);
            due("block " + b, run.block(b, 63), 0);
            due("block " + b, run.block(b, 64), 0);
            due("block " + b, run.block(b, -64), 0);
        }
    }

    private static void blockShowsTheDiskAlone() {
        Run run = formatted();
        run.give(5, 8);
        due("the tape is not there", run.block(2, 0), 0);
        run.crashIn(0);
        run.append();
        due("nor what was not written", run.block(2, 0), 0);
        run.recover();
        run.put(1, 1);
        long word = run.block(2, 0);
        run.mark(0, true);
        due("a mark is not there", run.block(2, 0), word);
        run.compact();
        due("a record that is gone is there yet", run.block(2, 0), word);
        run.crash();
        due("while down", run.block(2, 0), word);
        run.spoil(2, 0, 7);
        due("spoiled", run.block(2, 0) >>> 56, 7);
    }

    private static void writtenInAll() {
        Run run = formatted();
        due("by format", run.look(WRITTEN), 0);
        run.put(1000, 1);
        due("by append", run.look(WRITTEN), 2);
        run.compact();
        due("by compact, with the head", run.look(WRITTEN), 5);
        run.crashIn(1);
        run.compact();
        due("up to a crash", run.look(WRITTEN), 6);
        run.spoil(3, 3, 3);
        run.recover();
        due("by spoil and recover", run.look(WRITTEN), 6);
        run.format();
        due("in all", run.look(WRITTEN), 6);
        run.put(1, 1);
        due("in all", run.look(WRITTEN), 7);
    }

    private static void lookAtNothing() {
        Run run = full(1);
        for (int which : new int[] {-1, 9, 10, 255, 256, LEAST, GREATEST}) {
            due("look " + which, run.look(which), NONE);
        }
        due("look 8", run.look(8), 0);
        due("look 0", run.look(0), 16);
    }

    private static void lookAtTheCrash() {
        Run run = formatted();
        due("without one", run.look(DUE), NONE);
        run.crashIn(1);
        due("in 1", run.look(DUE), 1);
        run.put(1, 1);
        due("in 0", run.look(DUE), 0);
        run.give(1, 1);
        due("crash", run.append(), NONE);
        due("without one", run.look(DUE), NONE);
        run.crashIn(5);
        due("while down", run.look(DUE), 5);
        run.format();
        due("behind format", run.look(DUE), NONE);
    }

    // ---- stories that several tests tell

    /** A part of a run of calls. */
    private interface Story {
        void tell(Run run);
    }

    private static Story both(Story first, Story second) {
        return run -> {
            first.tell(run);
            second.tell(run);
        };
    }

    private static Run told(Story story) {
        Run run = new Run();
        story.tell(run);
        return run;
    }

    private static Run formatted() {
        return told(Run::format);
    }

    private static Run formattedDown() {
        Run run = formatted();
        run.crash();
        return run;
    }

    private static Run full(int half) {
        Run run = new Run().plantHead(0, 1, half).plantUsed(half, HALF_BYTES);
        due("a full half", run.recover(), 16);
        return run;
    }

    private static void crashAppend(Run run, int crashIn) {
        crashAppendOf(run, 1000, crashIn);
    }

    private static void crashAppendOf(Run run, int length, int crashIn) {
        run.tape(filled(length, 1));
        run.crashIn(crashIn);
        due("append comes to a crash", run.append(), NONE);
        due("down", run.look(STATE), DOWN);
    }

    private static void crashCompact(Run run, int crashIn) {
        run.crashIn(crashIn);
        due("compact comes to a crash", run.compact(), NONE);
        due("down", run.look(STATE), DOWN);
    }

    // ---- what is looked at

    private static void test(String words, Runnable... tests) {
        sentence = words;
        for (Runnable test : tests) {
            test.run();
        }
    }

    private static void due(String what, long got, long want) {
        if (got != want) {
            wrong++;
            System.out.println("'" + sentence + "': " + what + ": answered " + got + ", due is " + want);
        }
    }

    private static void due(String what, boolean got, boolean want) {
        due(what, got ? 1 : 0, want ? 1 : 0);
    }

    private static void dueLooks(Run run, long... want) {
        for (int which = 0; which < want.length; which++) {
            due("look " + which, run.look(which), want[which]);
        }
    }

    private static void dueDisk(String what, byte[] want, Story story) {
        byte[] got = diskOf(story);
        int at = Arrays.mismatch(want, got);
        if (at >= 0) {
            due(what + ": block " + at / 512 + ", byte " + at % 512, got[at] & 255, want[at] & 255);
        }
    }

    private static byte[] diskOf(Story story) {
        byte[] disk = new byte[DISK_BYTES];
        Run run = told(story);
        for (int w = 0; w < DISK_BYTES / 8; w++) {
            if (run.left() == 0) {
                run = told(story);
            }
            long word = run.block(w / 64, w % 64);
            for (int i = 0; i < 8; i++) {
                disk[8 * w + i] = (byte) (word >>> 56 - 8 * i);
            }
        }
        return disk;
    }

    private static void dueNoChange(Story story, Story refused) {
        Story compact = run -> {
            run.crashIn(NONE);
            run.compact();
        };
        dueDisk("a refused call", diskOf(story), both(story, refused));
        due("a refused call", viewOf(story).equals(viewOf(both(story, refused))), true);
        // Which records are marked is seen by what compact leaves.
        List<Long> left = viewOf(both(story, compact));
        due("compact behind a refused call", viewOf(both(both(story, refused), compact)).equals(left), true);
    }

    /** All looks, and the lengths and first words of all records. */
    private static List<Long> viewOf(Story story) {
        List<Long> view = new ArrayList<>();
        Run run = told(story);
        for (int which = 0; which < 9; which++) {
            view.add((long) run.look(which));
        }
        for (int i = 0; i < view.get(RECORDS); i++) {
            view.add((long) run.length(i));
            view.add(run.record(i, 0));
        }
        return view;
    }

    // ---- bytes as the document tells them

    /** The document's CHECK, bit by bit. */
    private static int checkOf(byte[] bytes) {
        int c = -1;
        for (byte b : bytes) {
            c ^= b & 255;
            for (int i = 0; i < 8; i++) {
                int out = c & 1;
                c >>>= 1;
                if (out == 1) {
                    c ^= 0xEDB88320;
                }
            }
        }
        return ~c;
    }

    private static byte[] withCheck(byte[] bytes) {
        int check = checkOf(bytes);
        byte[] all = Arrays.copyOf(bytes, bytes.length + 4);
        for (int i = 0; i < 4; i++) {
            all[bytes.length + i] = (byte) (check >>> 8 * i);
        }
        return all;
    }

    private static byte[] head(int generation, int half) {
        return withCheck(new byte[] {74, 49, (byte) half, 0, (byte) generation, (byte) (generation >>> 8),
            (byte) (generation >>> 16), (byte) (generation >>> 24)});
    }

    private static byte[] record(int... content) {
        byte[] bytes = new byte[content.length + 2];
        bytes[0] = (byte) content.length;
        bytes[1] = (byte) (content.length >>> 8);
        for (int i = 0; i < content.length; i++) {
            bytes[2 + i] = (byte) content[i];
        }
        return Arrays.copyOf(withCheck(bytes), content.length + 6 + content.length % 2);
    }

    private static int[] filled(int length, int value) {
        int[] content = new int[length];
        Arrays.fill(content, value);
        return content;
    }

    private static int placeOf(int half) {
        return (half == 0 ? 2 : 33) * 512;
    }

    private static void put(byte[] disk, int at, byte[] bytes) {
        System.arraycopy(bytes, 0, disk, at, bytes.length);
    }

    private static long wordOf(byte[] bytes, int at) {
        long word = 0;
        for (int i = 0; i < 8; i++) {
            word = word << 8 | bytes[at + i] & 255;
        }
        return word;
    }

    /** The LENGTHS of records that have so many bytes in all; no number of bytes from 2 to 6 can be had. */
    private static List<Integer> lengthsFor(int used) {
        List<Integer> lengths = new ArrayList<>();
        int left = used;
        while (left > 0) {
            int size = Math.min(left, 1006);
            if (left > size && left - size < 8) {
                size -= 8;
            }
            lengths.add(size - 6);
            left -= size;
        }
        return lengths;
    }

    private static void putUsed(byte[] disk, int half, int used) {
        int at = placeOf(half);
        for (int length : lengthsFor(used)) {
            byte[] bytes = record(new int[length]);
            put(disk, at, bytes);
            at += bytes.length;
        }
    }

    /** One object, its calls counted; exceptions are answers here. */
    private static final class Run {
        private final HalfJournal journal = new HalfJournal();
        private int calls = 0;

        private int left() {
            return MAX_CALLS - calls;
        }

        private HalfJournal counted() {
            calls++;
            if (calls > MAX_CALLS) {
                throw new IllegalStateException("a test has more than 512 calls: " + sentence);
            }
            return journal;
        }

        private void format() {
            counted().format();
        }

        private boolean give(long v, int n) {
            return counted().give(v, n);
        }

        private void wipe() {
            counted().wipe();
        }

        private int append() {
            HalfJournal counted = counted();
            try {
                return counted.append();
            } catch (RuntimeException e) {
                return kindOf(e);
            }
        }

        private boolean mark(int i, boolean is) {
            return counted().mark(i, is);
        }

        private int compact() {
            HalfJournal counted = counted();
            try {
                return counted.compact();
            } catch (RuntimeException e) {
                return kindOf(e);
            }
        }

        private boolean crashIn(int n) {
            return counted().crashIn(n);
        }

        private void crash() {
            counted().crash();
        }

        private int recover() {
            return counted().recover();
        }

        private boolean spoil(int b, int k, int v) {
            return counted().spoil(b, k, v);
        }

        private int length(int i) {
            return counted().length(i);
        }

        private long record(int i, int k) {
            return counted().record(i, k);
        }

        private long block(int b, int k) {
            return counted().block(b, k);
        }

        private int look(int which) {
            return counted().look(which);
        }

        private static int kindOf(RuntimeException e) {
            if (e.getClass() == IllegalStateException.class) {
                return STATE_EXCEPTION;
            }
            if (e.getClass() == IllegalArgumentException.class) {
                return ARGUMENT_EXCEPTION;
            }
            return e.getClass() == UnsupportedOperationException.class ? UNSUPPORTED_EXCEPTION : OTHER_EXCEPTION;
        }

        private void tape(int... content) {
            for (int at = 0; at < content.length; at += 8) {
                int n = Math.min(8, content.length - at);
                long v = 0;
                for (int i = 0; i < n; i++) {
                    v = v << 8 | content[at + i] & 255;
                }
                due("give", give(v, n), true);
            }
        }

        private int put(int length, int value) {
            tape(filled(length, value));
            return append();
        }

        private Run spoilAt(int at, byte[] bytes) {
            for (int i = 0; i < bytes.length; i++) {
                due("spoil", spoil((at + i) / 512, (at + i) % 512, bytes[i]), true);
            }
            return this;
        }

        /** Puts bytes where all is 0: few calls. */
        private Run spoilNot0(int at, byte[] bytes) {
            for (int i = 0; i < bytes.length; i++) {
                if (bytes[i] != 0) {
                    due("spoil", spoil((at + i) / 512, (at + i) % 512, bytes[i]), true);
                }
            }
            return this;
        }

        private Run plantHead(int b, int generation, int half) {
            return spoilAt(b * 512, head(generation, half));
        }

        private Run plant(int half, int at, int length) {
            return spoilNot0(placeOf(half) + at, HalfJournalEdges.record(new int[length]));
        }

        private Run plantUsed(int half, int used) {
            int at = 0;
            for (int length : lengthsFor(used)) {
                plant(half, at, length);
                at += length + 6 + length % 2;
            }
            return this;
        }

        /** Spoils the HALF from there on, two bytes in each block, but for the two bytes that end the RECORDS. */
        private Run spoilBehind(int half, int used) {
            for (int at = used / 256 * 256; at < HALF_BYTES; at += 256) {
                int k = Math.max(at + 255, used + 2);
                if (k < HALF_BYTES) {
                    spoil((placeOf(half) + k) / 512, k % 512, 255);
                }
            }
            return this;
        }
    }
}
