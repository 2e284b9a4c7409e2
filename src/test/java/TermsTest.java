/** What the promises rest on: the disk, the power, the buffer, the layout, the changes, the queue and the log. */
public final class TermsTest {
    private static final long STEP = 6364136223846793005L;
    private static final long MORE = 1442695040888963407L;

    /** A file of five blocks, 62 to 66, in its places; a buffer of four, so that each fill() of the next one writes one. */
    private static LedgerFiles fiveBlocks() {
        LedgerFiles x = Kit.mounted(128, 4, 16);
        Kit.file(x, "/f");
        x.fill(2, 0, 640, 0);
        x.unmount();
        x.mount();
        return x;
    }

    private static void round(LedgerFiles x, int first, int last) {
        for (int i = first; i <= last; i++) {
            x.fill(2, 128 * (i % 5), 1, 100 + i);
        }
    }

    /** An x with which of the lowest block value k is kept, of so many that wait. */
    private static long keeping(int k, int wait) {
        for (long x = 0; x < 100000; x++) {
            if ((x * STEP + MORE >>> 33) % (1 + wait) == k) {
                return x;
            }
        }
        throw new AssertionError("no such x");
    }

    private static void diskStartsWithZeros() {
        LedgerFiles x = new LedgerFiles(128, 4, 1);
        Kit.due("a byte of block 0", x.byteAt(0, 0), 0);
        Kit.due("the last byte", x.byteAt(127, 127), 0);
        Kit.due("values that wait", x.waiting(0) + x.waiting(127) + x.count(7), 0);
    }

    private static void diskKeepsValuesInOrder() {
        for (int k = 0; k <= 3; k++) {
            LedgerFiles x = fiveBlocks();
            int synced = x.byteAt(62, 0);
            // the block of place 0 is put first, so it is the first that is written
            round(x, 0, 14);
            Kit.due("values of the first block", x.waiting(62), 3);
            Kit.due("the latest is read", x.byteAt(62, 0), 110);
            x.crash();
            Kit.due("it is read without power, too", x.byteAt(62, 0), 110);
            x.restart(keeping(k, 3));
            Kit.due("value " + k + " is kept", x.byteAt(62, 0), k == 0 ? synced : 95 + 5 * k);
            Kit.due("none waits then", x.waiting(62), 0);
        }
    }

    private static void diskOf256Values() {
        LedgerFiles x = fiveBlocks();
        int synced = x.byteAt(62, 0);
        round(x, 0, 259);
        Kit.due("256 values wait", x.count(7), 256);
        Kit.due("of the first block", x.waiting(62), 52);
        x.crash();
        x.restart(keeping(0, 52));
        Kit.due("none of them was synced", x.byteAt(62, 0), synced);
    }

    private static void diskOf257Values() {
        LedgerFiles x = fiveBlocks();
        round(x, 0, 260);
        Kit.due("256 values wait, of 257", x.count(7), 256);
        Kit.due("of the first block", x.waiting(62), 51);
        Kit.due("of the second one", x.waiting(63), 52);
        Kit.due("a block that was never written", x.byteAt(120, 0) + x.byteAt(120, 127) + x.seen(127, 5), 0);
        x.crash();
        x.restart(keeping(0, 51));
        Kit.due("the one that was written first is synced", x.byteAt(62, 0), 100);
    }

    private static void diskFullAndNoPower() {
        LedgerFiles x = fiveBlocks();
        int synced = x.byteAt(62, 0);
        round(x, 0, 259);
        x.power(0);
        Kit.call("a write that is not done", Kit.POWER, () -> x.fill(2, 0, 1, 7));
        Kit.due("256 values wait still", x.count(7), 256);
        Kit.due("of the first block", x.waiting(62), 52);
        x.restart(keeping(0, 52));
        Kit.due("the first one was not synced ahead of it", x.byteAt(62, 0), synced);
    }

    private static void diskSyncs() {
        LedgerFiles x = fiveBlocks();
        round(x, 0, 14);
        int syncs = x.count(9);
        Kit.due("sync", x.sync(2), 4);
        Kit.due("one sync", x.count(9) - syncs, 1);
        Kit.due("none waits", x.count(7) + x.waiting(62), 0);
        Kit.due("the latest is read", x.byteAt(62, 0), 110);
        x.crash();
        Kit.due("no block has values that wait", x.restart(3), 0);
        Kit.due("it is what is synced", x.byteAt(62, 0), 110);
    }

    private static void powerFailsBehindSteps() {
        // a mark of the root: its value, block 2, a sync, block 1, a sync
        int[] writes = {0, 1, 2, 2, 3};
        for (int steps = 0; steps < 5; steps++) {
            LedgerFiles x = Kit.mounted(128, 64, 1);
            int before = x.count(8);
            int syncs = x.count(9);
            x.power(steps);
            Kit.call("mark() with " + steps + " steps", Kit.POWER, () -> x.mark(1, 5));
            Kit.due("writes", x.count(8) - before, writes[steps]);
            Kit.due("syncs", x.count(9) - syncs, steps > 2 ? 1 : 0);
            Kit.due("power and mount", x.count(14) + x.count(13), 0);
        }
        LedgerFiles y = Kit.mounted(128, 64, 1);
        y.power(5);
        Kit.call("mark() with 5 steps", 0, () -> y.mark(1, 5));
        Kit.due("the power is on", y.count(14), 1);
        Kit.due("calls without steps go on", y.about(1, 2), 5);
        Kit.call("feed() and find()", -1, () -> Kit.find(y, "/no"));
        Kit.due("the power is on still", y.count(14) * 10 + y.count(10), 10);
    }

    private static void powerFailsWhatIsNotOnTheDisk() {
        LedgerFiles x = Kit.mounted(128, 8, 16);
        int f = Kit.file(x, "/f");
        Kit.write(x, f, 0, "in the buffer");
        x.hold(f);
        x.begin();
        Kit.tape(x, "tape");
        x.crash();
        Kit.due("the buffer is empty", x.count(6), 0);
        Kit.due("the tape stays", x.count(12), 4);
        x.restart(0);
        x.back(4);
        x.mount();
        Kit.due("no group", x.count(16), 0);
        Kit.due("no change in the queue", x.count(3), 0);
        Kit.due("the file is gone", Kit.find(x, "/f"), -1);
        Kit.due("all is free", x.count(0) * 100 + x.count(1), 6763);
    }

    private static void powerFailsBytesBehindTheSize() {
        LedgerFiles x = Kit.mounted(128, 8, 16);
        int f = Kit.file(x, "/f");
        Kit.write(x, f, 0, "ab");
        x.flush();
        Kit.write(x, f, 2, "cd");
        x.sync(f);
        x.crash();
        x.restart(0);
        x.mount();
        Kit.due("the size came back", x.about(f, 1), 2);
        x.truncate(f, 5);
        Kit.due("what stands behind it is seen", Kit.text(x, f), "abcd\0");
        x.truncate(f, 2);
        x.truncate(f, 5);
        Kit.due("till it is cut once more", Kit.text(x, f), "ab\0\0\0");
    }

    private static void bufferIsFull() {
        for (int size : new int[] {4, 64}) {
            LedgerFiles x = Kit.mounted(300, size, 16);
            Kit.file(x, "/f");
            for (int i = 0; i < 5; i++) {
                x.fill(2, 2000 * i, 2000, i);
            }
            x.unmount();
            x.mount();
            for (int i = 0; i < size; i++) {
                x.fill(2, 128 * i, 1, i);
            }
            int writes = x.count(8);
            int out = x.count(11);
            Kit.due("as many as it holds", x.count(6), size);
            x.fill(2, 0, 1, 9);
            Kit.due("a value in place of one that is there", x.count(8) - writes, 0);
            x.fill(2, 128 * size, 1, 9);
            Kit.due("one more: one is written", x.count(8) - writes, 1);
            Kit.due("out of the full buffer", x.count(11) - out, 1);
            Kit.due("as many as it holds", x.count(6), size);
            Kit.due("the one that was put longest ago", x.waiting(x.where(2, 1)), 1);
            Kit.due("not the one that was put anew", x.waiting(x.where(2, 0)), 0);
        }
    }

    private static void bufferSettlesByRisingNumbers() {
        for (int steps = 0; steps < 4; steps++) {
            LedgerFiles x = Kit.mounted(128, 8, 16);
            Kit.file(x, "/f");
            x.fill(2, 0, 512, 1);
            x.unmount();
            x.mount();
            for (int place = 3; place >= 0; place--) {
                x.fill(2, 128 * place, 1, 50 + place);
            }
            x.power(steps);
            Kit.run("unmount() with " + steps + " steps", Kit.POWER, x::unmount);
            for (int place = 0; place < 4; place++) {
                Kit.due("value of place " + place, x.waiting(62 + place), place < steps ? 1 : 0);
            }
        }
    }

    private static int bytesBehind(LedgerFiles x, int block, int from) {
        int n = 0;
        for (int i = from; i < 128; i++) {
            n += x.byteAt(block, i) == 0 ? 0 : 1;
        }
        return n;
    }

    private static void layoutOfAnEmptyDisk() {
        LedgerFiles x = new LedgerFiles(128, 8, 4);
        x.format();
        Kit.due("block 0, else 0", bytesBehind(x, 0, 8), 0);
        Kit.due("block 1, else 0", bytesBehind(x, 1, 10), 0);
        Kit.due("block 44, the others 0", bytesBehind(x, 44, 1), 0);
        Kit.due("the root and no other inode", bytesBehind(x, 45, 2), 0);
    }

    private static void layoutOfUsedBits() {
        int[][] due = {{128, 15, 0, 16, 255}, {1024, 127, 0, 8, 0}, {1023, 127, 128, 8, 0}, {129, 16, 254, 17, 255}};
        for (int[] d : due) {
            LedgerFiles x = new LedgerFiles(d[0], 8, 4);
            x.format();
            Kit.due("blocks 56 to 63", x.byteAt(43, 7), 31);
            Kit.due("the last bits of " + d[0], x.byteAt(43, d[1]), d[2]);
            Kit.due("other bits of " + d[0], x.byteAt(43, d[3]), d[4]);
        }
    }

    private static void layoutOfHighNumbers() {
        LedgerFiles x = Kit.mounted(1024, 64, 16);
        int f = Kit.file(x, "/f");
        for (int i = 0; i < 56; i++) {
            x.fill(f, 2000 * i, 2000, i);
        }
        // blocks 61 (root), 62 to 69, the first table, 71 to 134, second table, its first table
        Kit.due("place 8", x.where(f, 8), 71);
        Kit.due("place 72", x.where(f, 72), 137);
        int second = (int) Kit.seen(x, 45, 32 + 30, 2);
        int table = (int) Kit.seen(x, second, 2 * 12, 2);
        Kit.due("a number above 255", x.where(f, 860) > 860, true);
        Kit.due("place 860, in table 12", Kit.seen(x, table, 2 * (860 - 72 - 12 * 64), 2), x.where(f, 860));
        Kit.due("875 blocks, a first table, a second, thirteen more", x.about(f, 3), 875 + 15);
        Kit.due("blocks that are free", x.count(0), 963 - 891);
        Kit.due("check", x.check(), 0);
    }

    private static void layoutOfAFarPlace() {
        LedgerFiles x = Kit.mounted(128, 8, 16);
        int f = Kit.file(x, "/f");
        Kit.write(x, f, 399999, "z");
        int second = (int) Kit.seen(x, 45, 32 + 30, 2);
        Kit.due("no first table", Kit.seen(x, 45, 32 + 28, 2), 0);
        // place 3124 is 3052 behind 72: table 47, number 44
        int table = (int) Kit.seen(x, second, 2 * 47, 2);
        Kit.due("the block in table 47", Kit.seen(x, table, 2 * 44, 2), x.where(f, 3124));
        Kit.due("its last byte", x.seen(x.where(f, 3124), 127), (int) 'z');
        Kit.due("size", Kit.seen(x, 45, 32 + 4, 4), 400000);
        Kit.due("a hole's byte", x.read(f, 399871), 0);
    }

    private static void layoutOfSlots() {
        LedgerFiles x = Kit.mounted(128, 8, 16);
        Kit.file(x, "/a");
        Kit.file(x, "/thirteen-13-z");
        Kit.due("inode, length, name of one", Kit.seen(x, 61, 0, 8), 2 | 1 << 16 | (long) 'a' << 24);
        Kit.due("behind it 0", Kit.seen(x, 61, 8, 8), 0);
        Kit.due("inode, length of thirteen", Kit.seen(x, 61, 16, 3), 3 | 13 << 16);
        Kit.due("its last letter is the slot's last byte", x.seen(61, 31), (int) 'z');
        Kit.due("the next slot is free", Kit.seen(x, 61, 32, 8), 0);
        Kit.remove(x, "/thirteen-13-z");
        Kit.due("a free slot is 0", Kit.seen(x, 61, 16, 8) | Kit.seen(x, 61, 24, 8), 0);
    }

    private static void lostCanBeReadAndChanged() {
        LedgerFiles x = Kit.mounted(128, 8, 16);
        int f = Kit.file(x, "/f");
        int d = Kit.directory(x, "/d");
        Kit.write(x, f, 0, "abcdef");
        x.hold(f);
        x.hold(d);
        Kit.remove(x, "/f");
        Kit.remove(x, "/d");
        Kit.due("lost", x.count(15), 2);
        Kit.due("write", Kit.write(x, f, 6, "gh"), 2);
        Kit.due("fill", x.fill(f, 130, 5, 65), 5);
        Kit.due("punch", x.punch(f, 1, 2), 0);
        Kit.due("truncate", x.truncate(f, 8), 0);
        Kit.due("mark", x.mark(f, 7) + x.mark(d, 8), 0);
        Kit.due("sync", x.sync(f), 1);
        Kit.due("text", Kit.text(x, f), "a\0\0defgh");
        Kit.due("marks", x.about(f, 2) * 10 + x.about(d, 2), 78);
        Kit.due("where", x.where(f, 0), 62);
        Kit.due("hold", x.hold(f) + x.hold(d), 4);
        Kit.due("names", x.about(d, 4), 0);
        Kit.call("an entry of a lost directory", Kit.NO_ELEMENT, () -> x.entry(d, 0));
        Kit.due("a lost directory is no file", x.truncate(d, 0), -4);
        Kit.due("its number is not given anew", Kit.file(x, "/f"), 4);
        Kit.due("check", x.check(), 0);
    }

    private static void changeHasWhatWasTaken() {
        LedgerFiles x = Kit.mounted(128, 8, 16);
        Kit.directory(x, "/d");
        Kit.file(x, "/d/f");
        x.flush();
        Kit.due("clear", Kit.clear(x, "/d"), 2);
        x.flush();
        Kit.due("a block that is free at the end is seen as ahead", x.seen(62, 3), (int) 'f');
        Kit.due("it is none of the change: behind five entries 43, 44, 45, 61", x.count(4), 5 + 4);
        Kit.directory(x, "/d");
        x.begin();
        Kit.file(x, "/d/f");
        Kit.due("it is as it was", x.seen(62, 3) * 1000 + x.seen(62, 0), 'f' * 1000 + 3);
        Kit.due("43, 44, 45, and 62, which was taken", x.end(), 4);
    }

    private static void changeOfBytesAlone() {
        LedgerFiles x = Kit.mounted(128, 8, 16);
        int f = Kit.file(x, "/f");
        Kit.write(x, f, 0, "abc");
        int changes = x.count(3);
        Kit.due("write", Kit.write(x, f, 0, "xyz"), 3);
        Kit.due("punch", x.punch(f, 1, 1), 0);
        Kit.due("a mark that is so already", x.mark(f, 0), 0);
        Kit.due("a size that is so already", x.truncate(f, 3), 0);
        Kit.due("no change", x.count(3), changes);
        Kit.due("but other bytes", Kit.text(x, f), "x\0z");
    }

    private static void seenInOrder() {
        LedgerFiles x = Kit.mounted(128, 8, 16);
        x.mark(1, 1);
        x.apply();
        Kit.due("the disk's", x.seen(45, 8) * 10 + x.byteAt(45, 8), 11);
        x.mark(1, 2);
        x.flush();
        Kit.due("the log's ahead of the disk's", x.seen(45, 8) * 10 + x.byteAt(45, 8), 21);
        x.mark(1, 3);
        x.flush();
        Kit.due("the last entry of two", x.seen(45, 8) * 10 + x.count(4), 32);
        x.mark(1, 4);
        x.mark(1, 5);
        Kit.due("the latest of the queue ahead of the log's", x.seen(45, 8) * 10 + x.count(3), 52);
        x.begin();
        x.mark(1, 6);
        x.mark(1, 7);
        Kit.due("what the group made ahead of the queue's", x.seen(45, 8), 7);
        x.undo();
        Kit.due("the queue's again", x.seen(45, 8), 5);
    }

    private static void seenTableOverBuffer() {
        // undo() leaves a file's bytes in the buffer; then the block is a directory's, in the queue and in the log
        LedgerFiles x = Kit.mounted(128, 8, 16);
        Kit.directory(x, "/d");
        x.begin();
        Kit.file(x, "/f");
        Kit.write(x, 3, 0, "bytes");
        x.undo();
        Kit.due("the buffer's", x.seen(62, 0), (int) 'b');
        Kit.due("a name in a directory", Kit.file(x, "/d/n"), 3);
        Kit.due("took the block", x.where(2, 0), 62);
        Kit.due("the queue's ahead of the buffer's", x.seen(62, 0) * 10 + x.count(6), 31);
        x.flush();
        Kit.due("the log's ahead of the disk's", x.seen(62, 0) * 1000 + x.byteAt(62, 0), 3000 + 'b');
        x.apply();
        Kit.due("in its place", x.seen(62, 0) * 10 + x.byteAt(62, 0), 33);
        Kit.due("check", x.check(), 0);
    }

    private static void queueIsFull() {
        for (int group : new int[] {1, 2, 16}) {
            LedgerFiles x = Kit.mounted(128, 8, group);
            for (int i = 1; i < group; i++) {
                x.mark(1, i);
                Kit.due("changes of " + group, x.count(3), i);
            }
            Kit.due("none in the log", x.count(4), 0);
            x.mark(1, 99);
            Kit.due("it is flushed", x.count(3), 0);
            Kit.due("into the log, each block once", x.count(4), 1);
        }
    }

    private static LedgerFiles twoChanges(int tables, int more) {
        LedgerFiles x = Kit.mounted(300, 64, 16);
        Kit.file(x, "/f");
        x.apply();
        int done = 0;
        for (int n : new int[] {tables, more}) {
            x.begin();
            for (int j = 0; j < n; j++) {
                x.fill(2, 9216 + 8192 * (done + j), 1, 1);
            }
            done += n;
            Kit.due("43, 45, the second table, and tables", x.end(), 3 + n);
        }
        return x;
    }

    private static void batchOf40() {
        LedgerFiles x = twoChanges(20, 17);
        int turn = x.count(5);
        Kit.due("two changes with 40 blocks", x.flush(), 2);
        Kit.due("one batch", x.count(5) - turn, 1);
        Kit.due("entries", x.count(4), 40);
        Kit.due("the last entry's block is the highest", Kit.onDisk(x, 2, 2 * 39, 2) > Kit.onDisk(x, 2, 2 * 38, 2), true);
        Kit.due("behind them 0", Kit.onDisk(x, 2, 80, 8) | Kit.onDisk(x, 2, 120, 8), 0);
        LedgerFiles y = twoChanges(20, 18);
        turn = y.count(5);
        Kit.due("two changes with 41 blocks", y.flush(), 2);
        Kit.due("two batches, the log is applied between them", y.count(5) - turn, 3);
        Kit.due("entries", y.count(4), 21);
        Kit.due("check", x.check() + y.check(), 0);
    }

    private static void logIsFull() {
        LedgerFiles x = Kit.mounted(128, 64, 1);
        for (int i = 1; i <= 40; i++) {
            x.mark(1, i);
        }
        Kit.due("40 entries", x.count(4), 40);
        Kit.due("TURN", x.count(5), 40);
        Kit.due("in its place the disk reads", x.byteAt(45, 8), 0);
        x.mark(1, 41);
        Kit.due("the log was applied first", x.count(4), 1);
        Kit.due("TURN grew by two", x.count(5), 42);
        Kit.due("the last entry came to its place", x.byteAt(45, 8), 40);
        Kit.due("block 2 has one number", Kit.onDisk(x, 2, 0, 8), 45);
        Kit.due("and 0 behind it", bytesBehind(x, 2, 1), 0);
        Kit.due("the values of others stay", x.byteAt(3 + 39, 8), 40);
        Kit.due("mark", x.about(1, 2), 41);
    }

    private static void logHasJustEnough() {
        LedgerFiles x = Kit.mounted(128, 64, 1);
        for (int i = 1; i <= 36; i++) {
            x.mark(1, i);
        }
        Kit.file(x, "/f");
        Kit.due("four entries are free for four blocks", x.count(4) * 100 + x.count(5), 4037);
        LedgerFiles y = Kit.mounted(128, 64, 1);
        for (int i = 1; i <= 37; i++) {
            y.mark(1, i);
        }
        Kit.file(y, "/f");
        Kit.due("three are not", y.count(4) * 100 + y.count(5), 439);
    }

    private static void freedBlocksRest() {
        LedgerFiles x = Kit.mounted(128, 8, 3);
        int f = Kit.file(x, "/f");
        x.fill(f, 0, 256, 65);
        x.flush();
        x.truncate(f, 128);
        Kit.due("free and resting", x.count(0) * 10 + x.count(2), 651);
        Kit.due("what it has stays", x.seen(63, 0), 65 + 4 & 255);
        x.mark(1, 1);
        Kit.due("it rests as long as its change is in the queue", x.count(2), 1);
        x.mark(1, 2);
        Kit.due("it does not behind that", x.count(2) * 10 + x.count(3), 0);
        Kit.due("free still", x.count(0), 65);
        Kit.due("it is taken", x.fill(f, 300, 1, 1), 1);
        Kit.due("the lowest", x.where(f, 2), 63);
        Kit.due("its old bytes are not seen", x.read(f, 256), 0);
    }

    private static void freedWithoutAChangeDoNotRest() {
        LedgerFiles x = Kit.mounted(128, 8, 16);
        x.begin();
        int f = Kit.file(x, "/f");
        x.fill(f, 0, 256, 65);
        Kit.remove(x, "/f");
        Kit.due("two and none of the root's", x.count(2), 2);
        x.undo();
        Kit.due("undone", x.count(2) + x.count(3), 0);
        Kit.file(x, "/f");
        Kit.due("the lowest is the root's again", x.where(1, 0), 61);
    }

    public static void main(String[] args) {
        diskStartsWithZeros();
        diskKeepsValuesInOrder();
        diskOf256Values();
        diskOf257Values();
        diskFullAndNoPower();
        diskSyncs();
        powerFailsBehindSteps();
        powerFailsWhatIsNotOnTheDisk();
        powerFailsBytesBehindTheSize();
        bufferIsFull();
        bufferSettlesByRisingNumbers();
        layoutOfAnEmptyDisk();
        layoutOfUsedBits();
        layoutOfHighNumbers();
        layoutOfAFarPlace();
        layoutOfSlots();
        lostCanBeReadAndChanged();
        changeHasWhatWasTaken();
        changeOfBytesAlone();
        seenInOrder();
        seenTableOverBuffer();
        queueIsFull();
        batchOf40();
        logIsFull();
        logHasJustEnough();
        freedBlocksRest();
        freedWithoutAChangeDoNotRest();
        Kit.done();
    }
}
