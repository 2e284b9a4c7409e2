/** Promises 4 to 6: format, mount and unmount. */
public final class WholeTest {
    private static int sumOfSix(int turn) {
        int[] six = {0, 0, turn & 255, turn >> 8 & 255, turn >> 16 & 255, turn >> 24 & 255};
        int h = 7;
        for (int b : six) {
            h = h * 31 + b;
        }
        return h;
    }

    private static void promise4Layout() {
        LedgerFiles x = new LedgerFiles(201, 8, 4);
        Kit.due("format()", x.format(), 140);
        Kit.due("magic", Kit.onDisk(x, 0, 0, 4), 1414874188);
        Kit.due("N", Kit.onDisk(x, 0, 4, 2), 201);
        Kit.due("entries and inodes", Kit.onDisk(x, 0, 6, 2), 40 + 256 * 64);
        Kit.due("rest of block 0", Kit.onDisk(x, 0, 8, 8), 0);
        Kit.due("entries and TURN", Kit.onDisk(x, 1, 0, 6), 0);
        Kit.due("SUM", (int) Kit.onDisk(x, 1, 6, 4), sumOfSix(0));
        for (int k = 0; k < 1024; k++) {
            int bit = x.byteAt(43, k / 8) >> k % 8 & 1;
            if (bit != (k < 61 || k >= 201 ? 1 : 0)) {
                Kit.due("bit of block " + k, bit, 1 - bit);
            }
        }
        Kit.due("inodes used", Kit.onDisk(x, 44, 0, 8), 1);
        Kit.due("root", Kit.onDisk(x, 45, 0, 8), 0x0102);
        Kit.due("root's mark and blocks", Kit.onDisk(x, 45, 8, 8), 0);
        Kit.due("inode 2", Kit.onDisk(x, 45, 32, 8), 0);
    }

    private static void promise4Steps() {
        int[][] due = {{64, 0}, {19, 0}, {8, 11}, {4, 15}};
        for (int[] d : due) {
            LedgerFiles x = new LedgerFiles(128, d[0], 4);
            x.format();
            Kit.due("writes of format() with M " + d[0], x.count(8), 21);
            Kit.due("syncs", x.count(9), 3);
            Kit.due("written out of the full buffer", x.count(11), d[1]);
            Kit.due("in the buffer", x.count(6), 0);
            Kit.due("mounted", x.count(13), 0);
        }
    }

    private static void promise4PowerFails() {
        for (int steps = 0; steps < 24; steps++) {
            LedgerFiles x = new LedgerFiles(128, 8, 4);
            x.format();
            x.power(steps);
            Kit.call("format() with power for " + steps + " steps", Kit.POWER, x::format);
            Kit.due("power", x.count(14), 0);
            int waited = x.restart(1);
            Kit.due("mount tells a whole format", waited < 20, true);
        }
        LedgerFiles y = new LedgerFiles(128, 8, 4);
        y.power(24);
        Kit.call("format() with power for 24 steps", 67, y::format);
        // the first step of a second format may be kept or not; behind its sync there is no file system
        y.power(2);
        Kit.call("format() once more", Kit.POWER, y::format);
        y.restart(0);
        for (int i = 0; i < 128; i++) {
            Kit.due("byte " + i + " of block 0 behind half a format", y.byteAt(0, i), 0);
        }
        Kit.call("mount() behind half a format", Kit.ARGUMENT, y::mount);
        Kit.call("format() behind that", 67, y::format);
        Kit.call("mount() behind that", 0, y::mount);
    }

    private static void promise4OtherBlocksStay() {
        LedgerFiles x = Kit.mounted(128, 8, 4);
        int inode = Kit.file(x, "/f");
        Kit.write(x, inode, 0, "old bytes");
        int block = x.where(inode, 0);
        x.unmount();
        x.format();
        Kit.due("a byte from before", x.byteAt(block, 4), (int) 'b');
        x.mount();
        Kit.due("names behind format()", x.about(1, 4), 0);
        Kit.due("blocks free behind format()", x.count(0), 67);
        Kit.due("TURN behind format()", x.count(5), 0);
    }

    private static void promise4State() {
        LedgerFiles x = Kit.mounted(128, 8, 4);
        Kit.call("format() while mounted", Kit.STATE, x::format);
        x.crash();
        Kit.call("format() without power", Kit.STATE, x::format);
    }

    private static void promise5Head() {
        LedgerFiles x = new LedgerFiles(128, 8, 4);
        Kit.call("mount() of a new disk", Kit.ARGUMENT, x::mount);
        Kit.due("mounted", x.count(13), 0);
        x.format();
        Kit.call("mount()", 0, x::mount);
        Kit.call("mount() again", Kit.STATE, x::mount);
        x.crash();
        Kit.call("mount() without power", Kit.STATE, x::mount);
        x.restart(5);
        Kit.call("mount() with power", 0, x::mount);
    }

    private static void promise5Log() {
        LedgerFiles x = Kit.mounted(128, 8, 1);
        Kit.file(x, "/f");
        Kit.due("entries", x.count(4), 4);
        Kit.due("TURN", x.count(5), 1);
        x.crash();
        x.restart(7);
        int writes = x.count(8);
        int syncs = x.count(9);
        Kit.call("mount() with a log", 4, x::mount);
        Kit.due("writes of applying it", x.count(8) - writes, 5);
        Kit.due("syncs of applying it", x.count(9) - syncs, 2);
        Kit.due("entries", x.count(4), 0);
        Kit.due("TURN", x.count(5), 2);
        Kit.due("SUM without entries", (int) Kit.onDisk(x, 1, 6, 4), sumOfSix(2));
        Kit.due("find", Kit.find(x, "/f"), 2);
        x.unmount();
        writes = x.count(8);
        Kit.call("mount() without a log", 0, x::mount);
        Kit.due("writes of that", x.count(8) - writes, 0);
    }

    private static void promise5FullLog() {
        LedgerFiles x = Kit.mounted(300, 8, 16);
        Kit.file(x, "/f");
        x.begin();
        for (int j = 0; j < 35; j++) {
            x.fill(2, 9216 + 8192 * j, 1, 1);
        }
        x.end();
        x.flush();
        Kit.due("entries", x.count(4), 40);
        long tree = x.tree(false);
        x.crash();
        x.restart(7);
        Kit.call("mount() with 40 entries", 40, x::mount);
        Kit.due("tree", x.tree(false), tree);
        Kit.due("check", x.check(), 0);
    }

    private static void promise5LogByHalves() {
        // block 1 is written behind the sync of the entries: with the power gone there, they do not count
        LedgerFiles x = Kit.mounted(128, 64, 1);
        Kit.tape(x, "/f");
        x.power(6);
        Kit.call("make() whose values and numbers are written and synced", Kit.POWER, () -> x.make(false));
        x.restart(3);
        Kit.call("mount() without block 1", 0, x::mount);
        Kit.due("find", Kit.find(x, "/f"), -1);
        Kit.due("check", x.check(), 0);
    }

    private static void promise5PowerFailsAgain() {
        for (int steps = 0; steps < 7; steps++) {
            LedgerFiles x = Kit.mounted(128, 8, 1);
            Kit.file(x, "/f");
            x.crash();
            x.restart(7);
            x.power(steps);
            Kit.call("mount() with power for " + steps + " steps", Kit.POWER, x::mount);
            x.restart(steps);
            Kit.due("tree behind that", x.mount() >= 0 && Kit.find(x, "/f") == 2, true);
        }
    }

    private static void promise5LostGo() {
        LedgerFiles x = Kit.mounted(128, 8, 4);
        int inode = Kit.file(x, "/f");
        x.fill(inode, 0, 2000, 5);
        x.hold(inode);
        Kit.remove(x, "/f");
        x.flush();
        Kit.due("lost", x.count(15), 1);
        x.crash();
        x.restart(1);
        x.mount();
        Kit.due("lost behind mount()", x.count(15), 0);
        Kit.due("inodes free", x.count(1), 63);
        Kit.due("changes in the queue", x.count(3), 1);
        Kit.due("blocks that rest", x.count(2), 17);
        Kit.due("hold of what went", x.hold(inode), -11);
    }

    private static void promise6Unmount() {
        LedgerFiles x = Kit.mounted(128, 8, 16);
        int inode = Kit.file(x, "/f");
        x.fill(inode, 0, 300, 5);
        int h = Kit.open(x, "/f", 1);
        Kit.file(x, "/g");
        x.hold(3);
        Kit.remove(x, "/g");
        x.begin();
        Kit.file(x, "/h");
        long tree = x.tree(true);
        x.undo();
        long due = x.tree(true);
        x.begin();
        Kit.file(x, "/h");
        Kit.due("the group's name is seen", x.tree(true), tree);
        Kit.run("unmount()", "", x::unmount);
        Kit.due("mounted", x.count(13), 0);
        Kit.due("buffer", x.count(6), 0);
        Kit.due("values that wait", x.count(7), 0);
        Kit.due("entries on the disk", Kit.onDisk(x, 1, 0, 2), 0);
        Kit.due("what was lost went ahead of that", Kit.onDisk(x, 45, 64, 8), 0);
        Kit.due("its bit", Kit.onDisk(x, 44, 0, 8), 3);
        Kit.run("unmount() again", Kit.STATE, x::unmount);
        Kit.call("read() behind it", Kit.STATE, () -> x.read(inode, 0));
        Kit.call("mount()", 0, x::mount);
        Kit.due("tree without the group's", x.tree(true), due);
        Kit.due("lost", x.count(15), 0);
        Kit.due("inode of what was lost", x.about(3, 0), -11);
        Kit.due("handles", x.count(17), 0);
        Kit.due("handle from before", x.look(h, 0), -13);
        Kit.due("held", x.about(inode, 6), 0);
        Kit.due("check", x.check(), 0);
    }

    private static void promise6TwoChanges() {
        // undo() lets go what is lost and not held; then unmount() what was held: with G 1 that is two flushes
        LedgerFiles x = Kit.mounted(128, 8, 1);
        int f = Kit.file(x, "/f");
        int g = Kit.file(x, "/g");
        x.hold(f);
        x.hold(g);
        Kit.remove(x, "/f");
        Kit.remove(x, "/g");
        x.apply();
        x.begin();
        x.release(f);
        int turn = x.count(5);
        x.unmount();
        x.mount();
        Kit.due("TURN", x.count(5) - turn, 3);
    }

    private static void promise6Steps() {
        LedgerFiles x = Kit.mounted(128, 8, 16);
        int syncs = x.count(9);
        int writes = x.count(8);
        x.unmount();
        Kit.due("syncs of unmount() with nothing to do", x.count(9) - syncs, 1);
        Kit.due("writes", x.count(8) - writes, 0);
        LedgerFiles y = Kit.mounted(128, 8, 16);
        y.mark(1, 5);
        syncs = y.count(9);
        writes = y.count(8);
        y.unmount();
        Kit.due("syncs of FLUSH, APPLY, SETTLE", y.count(9) - syncs, 5);
        Kit.due("writes of one block's change", y.count(8) - writes, 5);
        LedgerFiles z = Kit.mounted(128, 8, 16);
        z.mark(1, 5);
        z.power(9);
        Kit.run("unmount() whose last sync fails", Kit.POWER, z::unmount);
        Kit.run("unmount() without power", Kit.STATE, z::unmount);
    }

    private static void promise5OneEntry() {
        LedgerFiles x = Kit.mounted(128, 8, 1);
        x.mark(1, 77);
        Kit.due("an entry", x.count(4), 1);
        x.crash();
        x.restart(1);
        Kit.call("mount() with one entry", 1, x::mount);
        Kit.due("mark", x.about(1, 2), 77);
        Kit.due("it is applied", x.count(4) * 10 + x.byteAt(45, 8), 77);
    }

    private static void promise5LastWriteWaits() {
        // only the last sync of a flush is missing: block 1 waits, and the power's x says whether it is there
        int[] seen = new int[2];
        for (int seed = 0; seed < 20; seed++) {
            LedgerFiles x = Kit.mounted(128, 8, 1);
            x.power(4);
            Kit.call("mark()", Kit.POWER, () -> x.mark(1, 77));
            Kit.due("a block waits", x.restart(seed), 1);
            int entries = (int) Kit.onDisk(x, 1, 0, 2);
            seen[entries]++;
            Kit.due("mount() tells as many entries as block 1", x.mount(), entries);
            Kit.due("the change is there, or not", x.about(1, 2), 77 * entries);
            Kit.due("TURN", x.count(5), 2 * entries);
        }
        Kit.due("both came", seen[0] > 0 && seen[1] > 0, true);
    }

    private static void promise5ThrowsChangesNothing() {
        LedgerFiles x = new LedgerFiles(128, 8, 4);
        x.feed(1, 2, 3, 4, 5);
        Kit.call("mount() of a new disk", Kit.ARGUMENT, x::mount);
        Kit.due("steps", x.count(8) + x.count(9), 0);
        Kit.due("the tape", x.count(12), 20);
        Kit.due("format() goes on", x.format(), 67);
        Kit.call("then mount()", 0, x::mount);
    }

    private static void promise5LostGoAndPowerFails() {
        for (int steps = 0; steps < 9; steps++) {
            LedgerFiles x = Kit.mounted(128, 8, 1);
            int f = Kit.file(x, "/f");
            x.hold(f);
            Kit.remove(x, "/f");
            x.apply();
            x.crash();
            x.restart(1);
            // 44 and 45 as two values, block 2, a sync, block 1, a sync
            x.power(steps);
            int entries = steps < 6 ? -1 : x.mount();
            if (steps < 6) {
                Kit.call("mount() with " + steps + " steps", Kit.POWER, x::mount);
                x.restart(steps);
                x.mount();
            }
            Kit.due("entries", entries, steps < 6 ? -1 : 0);
            Kit.due("what was lost went", x.count(15) * 100 + x.count(1), 63);
            Kit.due("check", x.check(), 0);
        }
    }

    private static void promise6GroupIsUndone() {
        LedgerFiles x = Kit.mounted(128, 8, 16);
        int f = Kit.file(x, "/f");
        Kit.write(x, f, 0, "old");
        x.begin();
        Kit.write(x, f, 0, "new and longer");
        Kit.remove(x, "/f");
        x.unmount();
        x.mount();
        Kit.due("the name is there", Kit.find(x, "/f"), f);
        Kit.due("bytes that were written stay, the size does not", Kit.text(x, f), "new");
        Kit.due("check", x.check(), 0);
    }

    private static void promise6PowerFails() {
        // the value, block 2, a sync, block 1, a sync; block 45, a sync, block 1, a sync; a sync
        for (int steps = 0; steps < 10; steps++) {
            LedgerFiles x = Kit.mounted(128, 8, 16);
            x.mark(1, 5);
            x.power(steps);
            Kit.run("unmount() with " + steps + " steps", Kit.POWER, x::unmount);
            x.restart(steps);
            x.mount();
            Kit.due("none of it by halves", x.about(1, 2) == 5 || x.about(1, 2) == 0 && steps < 5, true);
        }
        LedgerFiles y = Kit.mounted(128, 8, 16);
        y.mark(1, 5);
        y.power(10);
        Kit.run("unmount() with 10 steps", "", y::unmount);
        Kit.due("the power is on", y.count(14), 1);
    }

    private static void promise4BlocksThatWereNeverWritten() {
        LedgerFiles x = Kit.mounted(128, 8, 4);
        int bytes = 0;
        for (int b = 61; b < 128; b++) {
            bytes += x.byteAt(b, 0) + x.byteAt(b, 127) + x.seen(b, 0) + x.seen(b, 127);
        }
        for (int b = 2; b < 43; b++) {
            bytes += x.byteAt(b, 0) + x.byteAt(b, 127);
        }
        Kit.due("bytes of blocks that format() does not write", bytes, 0);
    }

    private static void promise4FirstSyncFails() {
        // block 0, full of 0, waits: it is kept or not
        int mounts = 0;
        for (long seed = 0; seed < 20; seed++) {
            LedgerFiles x = Kit.mounted(128, 8, 4);
            x.unmount();
            x.power(1);
            Kit.call("format() whose first sync fails", Kit.POWER, x::format);
            Kit.due("a value of block 0 waits", x.waiting(0), 1);
            Kit.due("the disk reads it", x.byteAt(0, 0), 0);
            Kit.due("restart()", x.restart(seed), 1);
            long v = seed * 6364136223846793005L + 1442695040888963407L;
            boolean stays = (v >>> 33) % 2 == 0;
            Kit.due("the head's first byte", x.byteAt(0, 0), stays ? 1414874188 & 255 : 0);
            Kit.call("mount()", stays ? 0 : Kit.ARGUMENT, x::mount);
            mounts += stays ? 1 : 0;
        }
        Kit.due("both came", mounts > 0 && mounts < 20, true);
    }

    private static void promise4OverALog() {
        LedgerFiles x = Kit.mounted(128, 8, 1);
        Kit.file(x, "/f");
        Kit.due("entries", x.count(4), 4);
        x.crash();
        x.restart(1);
        Kit.due("format()", x.format(), 67);
        Kit.due("block 1: no entries, TURN 0", Kit.onDisk(x, 1, 0, 6), 0);
        Kit.due("its SUM", (int) Kit.onDisk(x, 1, 6, 4), sumOfSix(0));
        Kit.due("blocks of the old log stay", Kit.onDisk(x, 2, 0, 2), 43);
        Kit.call("mount()", 0, x::mount);
        Kit.due("find", Kit.find(x, "/f"), -1);
    }

    private static void promise5NothingIsLeftOver() {
        LedgerFiles x = Kit.mounted(128, 8, 16);
        int f = Kit.file(x, "/f");
        x.fill(f, 0, 500, 1);
        x.flush();
        x.hold(f);
        Kit.open(x, "/f", 0);
        x.truncate(f, 100);
        Kit.file(x, "/g");
        x.fill(f, 0, 1, 7);
        Kit.due("rest, queue and buffer", x.count(2) * 100 + x.count(3) * 10 + x.count(6), 321);
        x.crash();
        x.restart(0);
        Kit.due("the buffer behind restart()", x.count(6), 0);
        x.mount();
        Kit.due("nothing rests", x.count(2), 0);
        Kit.due("nothing is held", x.about(f, 6), 0);
        Kit.due("the queue is empty", x.count(3), 0);
        Kit.due("the size is as flushed", x.about(f, 1), 500);
        x.mark(f, 3);
        Kit.due("one change", x.flush(), 1);
        Kit.due("of one block", x.count(4), 1);
        Kit.due("what was not flushed is gone", Kit.find(x, "/g"), -1);
        Kit.due("what was in the buffer is gone", x.read(f, 0), 1);
        Kit.due("check", x.check(), 0);
    }

    private static void promise5NothingIsHeldBehindUnmount() {
        LedgerFiles x = Kit.mounted(128, 8, 16);
        int f = Kit.file(x, "/f");
        x.hold(f);
        x.hold(f);
        x.unmount();
        x.mount();
        Kit.due("held", x.about(f, 6), 0);
        Kit.due("release", x.release(f), -9);
    }

    private static void promise5TheLastInode() {
        LedgerFiles x = Kit.mounted(128, 8, 16);
        for (int i = 2; i <= 64; i++) {
            Kit.file(x, "/f" + i);
        }
        x.hold(64);
        Kit.remove(x, "/f64");
        x.flush();
        x.crash();
        x.restart(1);
        x.mount();
        Kit.due("inode 64 was lost and went", x.count(15) * 10 + x.count(1), 1);
        Kit.due("its kind", x.about(64, 0), -11);
        Kit.due("check", x.check(), 0);
    }

    private static void promise6AppliesThenSettles() {
        // the log has block 45, the buffer a file's block: APPLY puts the one and settles both, by rising numbers
        LedgerFiles x = Kit.mounted(128, 8, 16);
        int f = Kit.file(x, "/f");
        x.fill(f, 0, 1, 1);
        x.apply();
        x.mark(f, 7);
        x.flush();
        x.fill(f, 0, 1, 2);
        x.power(1);
        Kit.run("unmount() with one step", Kit.POWER, x::unmount);
        Kit.due("block 45 is written first", x.waiting(45) * 10 + x.waiting(62), 10);
    }

    public static void main(String[] args) {
        promise4Layout();
        promise4Steps();
        promise4PowerFails();
        promise4OtherBlocksStay();
        promise4State();
        promise5Head();
        promise5Log();
        promise5FullLog();
        promise5LogByHalves();
        promise5PowerFailsAgain();
        promise5LostGo();
        promise6Unmount();
        promise6TwoChanges();
        promise6Steps();
        promise5OneEntry();
        promise5LastWriteWaits();
        promise5ThrowsChangesNothing();
        promise5LostGoAndPowerFails();
        promise6GroupIsUndone();
        promise6PowerFails();
        promise4BlocksThatWereNeverWritten();
        promise4FirstSyncFails();
        promise4OverALog();
        promise5NothingIsLeftOver();
        promise5NothingIsHeldBehindUnmount();
        promise5TheLastInode();
        promise6AppliesThenSettles();
        Kit.done();
    }
}
