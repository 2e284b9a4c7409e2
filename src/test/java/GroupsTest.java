/** Promises 32 to 37: groups, and what makes it last. */
public final class GroupsTest {
    private static void promise32Begin() {
        LedgerFiles x = Kit.mounted(200, 8, 2);
        Kit.due("begin", x.begin(), true);
        Kit.due("again", x.begin(), false);
        Kit.due("open", x.count(16), 1);
        Kit.file(x, "/a");
        Kit.file(x, "/b");
        Kit.file(x, "/c");
        Kit.due("no change is committed", x.count(3), 0);
        Kit.due("but all is seen", Kit.find(x, "/c"), 4);
        x.end();
        Kit.due("open", x.count(16), 0);
        Kit.due("one more", x.begin(), true);
        x.crash();
        Kit.call("begin() without power", Kit.STATE, x::begin);
        x.restart(1);
        x.mount();
        Kit.due("none is open behind mount()", x.count(16), 0);
    }

    private static void promise33End() {
        LedgerFiles x = Kit.mounted(200, 8, 16);
        Kit.due("no group", x.end(), -9);
        x.begin();
        Kit.due("nothing in it", x.end(), 0);
        Kit.due("no change", x.count(3), 0);
        x.begin();
        Kit.file(x, "/a");
        Kit.file(x, "/b");
        Kit.due("blocks 43, 44, 45 and the root's", x.end(), 4);
        Kit.due("one change", x.count(3), 1);
        x.begin();
        Kit.file(x, "/c");
        x.fill(4, 0, 300, 1);
        Kit.remove(x, "/c");
        Kit.due("blocks freed in it rest", x.count(2), 3);
        Kit.due("nothing is other than before", x.end(), 0);
        Kit.due("nothing rests", x.count(2), 0);
        x.begin();
        Kit.file(x, "/c");
        x.fill(4, 0, 300, 1);
        Kit.remove(x, "/c");
        x.mark(1, 4);
        Kit.due("the root's mark alone", x.end(), 1);
        Kit.due("they rest for it", x.count(2), 3);
        x.flush();
        Kit.due("till it left the queue", x.count(2), 0);
        x.unmount();
        Kit.call("end() when not mounted", Kit.STATE, x::end);
    }

    private static void promise33TooMany() {
        LedgerFiles x = Kit.mounted(300, 8, 16);
        Kit.file(x, "/f");
        long tree = x.tree(true);
        int free = x.count(0);
        x.begin();
        for (int j = 0; j < 38; j++) {
            x.fill(2, 9216 + 8192 * j, 1, 1);
        }
        Kit.due("43, 45, the second table, 38 more", x.end(), -12);
        Kit.due("as behind undo()", x.tree(true), tree);
        Kit.due("blocks", x.count(0), free);
        Kit.due("rest", x.count(2), 0);
        Kit.due("group", x.count(16), 0);
        x.begin();
        for (int j = 0; j < 37; j++) {
            x.fill(2, 9216 + 8192 * j, 1, 1);
        }
        Kit.due("40 of them", x.end(), 40);
        Kit.due("check", x.check(), 0);
    }

    private static void promise33TooManyWithLost() {
        LedgerFiles x = Kit.mounted(300, 8, 16);
        int f = Kit.file(x, "/f");
        int g = Kit.file(x, "/g");
        int h = Kit.file(x, "/h");
        x.hold(g);
        x.hold(h);
        Kit.remove(x, "/g");
        Kit.remove(x, "/h");
        x.begin();
        x.release(g);
        for (int j = 0; j < 40; j++) {
            x.fill(f, 9216 + 8192 * j, 1, 1);
        }
        int changes = x.count(3);
        Kit.due("too many", x.end(), -12);
        Kit.due("lost and not held: it goes", x.about(g, 0), -11);
        Kit.due("lost and held: it stays", x.about(h, 0), 1);
        Kit.due("one change", x.count(3) - changes, 1);
        x.begin();
        x.undo();
        Kit.due("undo() lets it stay, too", x.about(h, 0), 1);
    }

    private static void promise33Flushes() {
        LedgerFiles x = Kit.mounted(200, 8, 2);
        x.mark(1, 1);
        x.begin();
        x.mark(1, 2);
        x.mark(1, 3);
        Kit.due("in the queue", x.count(3), 1);
        Kit.due("end", x.end(), 1);
        Kit.due("the queue was flushed", x.count(3), 0);
        Kit.due("both were one batch", x.count(4), 1);
        x.mark(1, 4);
        x.begin();
        x.mark(1, 5);
        x.power(2);
        Kit.call("end() whose flush fails", Kit.POWER, x::end);
        x.restart(1);
        x.mount();
        Kit.due("the mark behind that", x.about(1, 2), 3);
    }

    private static void promise33FreeBlocksAreSeenAsBefore() {
        LedgerFiles x = Kit.mounted(200, 8, 16);
        Kit.directory(x, "/d");
        Kit.file(x, "/d/f");
        int block = x.where(2, 0);
        x.begin();
        Kit.remove(x, "/d/f");
        Kit.due("in the group its slot is free", x.seen(block, 0), 0);
        Kit.remove(x, "/d");
        Kit.due("when it is free it is seen as when the group began", x.seen(block, 0), 3);
        x.undo();
        Kit.due("undone", Kit.find(x, "/d/f"), 3);
    }

    private static void promise34Undo() {
        LedgerFiles x = Kit.mounted(200, 8, 16);
        Kit.due("no group", x.undo(), -9);
        int f = Kit.file(x, "/f");
        Kit.write(x, f, 0, "old bytes");
        long tree = x.tree(false);
        x.begin();
        Kit.write(x, f, 0, "new");
        Kit.directory(x, "/d");
        Kit.rename(x, "/f", "/d/g");
        x.mark(1, 7);
        int h = Kit.open(x, "/d/n", 5);
        int made = x.look(h, 0);
        x.hold(made);
        x.hold(f);
        int kept = Kit.open(x, "/d/g", 0);
        x.seek(kept, 3);
        Kit.due("undo", x.undo(), 0);
        Kit.due("tree", x.tree(false), tree);
        Kit.due("bytes stay", Kit.text(x, f), "new bytes");
        Kit.due("the handle on what was made", x.look(h, 0), -13);
        Kit.due("the other handle", x.look(kept, 1), 3);
        Kit.due("what was made is not held", x.hold(made), -11);
        Kit.due("held", x.about(f, 6), 2);
        Kit.due("no change", x.count(3), 2);
        Kit.due("check", x.check(), 0);
        x.crash();
        Kit.call("undo() without power", Kit.STATE, x::undo);
    }

    private static void promise34LostGo() {
        LedgerFiles x = Kit.mounted(200, 8, 16);
        int f = Kit.file(x, "/f");
        x.fill(f, 0, 200, 1);
        x.hold(f);
        Kit.remove(x, "/f");
        x.begin();
        Kit.due("it goes in the group", x.release(f), 0);
        Kit.due("free", x.about(f, 0), -11);
        int changes = x.count(3);
        x.undo();
        Kit.due("it came back lost, and went", x.about(f, 0), -11);
        Kit.due("as one change", x.count(3) - changes, 1);
        Kit.due("its blocks rest", x.count(2), 2);
        Kit.due("check", x.check(), 0);
    }

    private static void promise34HandleOnDirectory() {
        LedgerFiles x = Kit.mounted(200, 8, 16);
        int d = Kit.directory(x, "/d");
        x.begin();
        Kit.remove(x, "/d");
        int h = Kit.open(x, "/f", 4);
        Kit.due("the inode is used again", x.look(h, 0), d);
        x.hold(d);
        x.undo();
        Kit.due("it is a directory then", x.about(d, 0), 2);
        Kit.due("the handle is free", x.count(17), 0);
        Kit.due("hold() holds it still", x.about(d, 6), 1);
    }

    private static void promise34FreedInGroup() {
        LedgerFiles x = Kit.mounted(128, 8, 1);
        int f = Kit.file(x, "/f");
        Kit.fillUp(x, f, 0);
        x.begin();
        x.truncate(f, 1000);
        Kit.due("blocks are free", x.count(0) > 20, true);
        Kit.due("but not for this group", x.fill(f, 2000, 1, 1), -7);
        x.undo();
        Kit.due("the size is as before", x.about(f, 1) > 5000, true);
        Kit.due("none are free", x.count(0), 0);
        x.truncate(f, 1000);
        Kit.due("without a group they are", x.fill(f, 2000, 1, 1), 1);
    }

    private static void promise35Flush() {
        LedgerFiles x = Kit.mounted(200, 64, 16);
        Kit.due("nothing", x.flush(), 0);
        int steps = x.count(8) + x.count(9);
        x.flush();
        Kit.due("no step", x.count(8) + x.count(9), steps);
        Kit.file(x, "/f");
        x.mark(1, 2);
        x.mark(2, 3);
        int writes = x.count(8);
        int syncs = x.count(9);
        Kit.due("three changes", x.flush(), 3);
        Kit.due("four values, block 2, block 1", x.count(8) - writes, 6);
        Kit.due("syncs", x.count(9) - syncs, 2);
        Kit.due("entries", x.count(4), 4);
        Kit.due("blocks of the entries", Kit.onDisk(x, 2, 0, 8), 43L | 44L << 16 | 45L << 32 | 61L << 48);
        Kit.due("behind them", Kit.onDisk(x, 2, 8, 8), 0);
        Kit.due("value of entry 0", x.byteAt(3, 7), 63);
        Kit.due("its place on the disk", x.byteAt(43, 7), 31);
        Kit.due("head", Kit.onDisk(x, 1, 0, 6), 4 | 1 << 16);
        Kit.due("sum", (int) Kit.onDisk(x, 1, 6, 4), sumOf(x, 4));
        x.mark(1, 9);
        x.begin();
        x.mark(1, 10);
        Kit.due("the group's stays", x.flush(), 1);
        Kit.due("group", x.count(16), 1);
        Kit.due("entries", x.count(4), 5);
        x.crash();
        Kit.call("flush() without power", Kit.STATE, x::flush);
        x.restart(1);
        x.mount();
        Kit.due("mark", x.about(1, 2), 9);
    }

    private static int sumOf(LedgerFiles x, int entries) {
        int h = 7;
        for (int i = 0; i < 6; i++) {
            h = h * 31 + x.byteAt(1, i);
        }
        for (int i = 0; i < 2 * entries; i++) {
            h = h * 31 + x.byteAt(2, i);
        }
        for (int k = 0; k < entries; k++) {
            for (int i = 0; i < 128; i++) {
                h = h * 31 + x.byteAt(3 + k, i);
            }
        }
        return h;
    }

    private static void promise35Batches() {
        // two changes of 23 blocks with 3 in common are two batches; the log is applied between them
        LedgerFiles x = Kit.mounted(300, 64, 16);
        Kit.file(x, "/f");
        x.apply();
        for (int round = 0; round < 2; round++) {
            x.begin();
            for (int j = 0; j < 20; j++) {
                x.fill(2, 9216 + 8192 * (20 * round + j), 1, 1);
            }
            Kit.due("blocks of the change", x.end(), 23);
        }
        int turn = x.count(5);
        Kit.due("two changes", x.flush(), 2);
        Kit.due("two batches, and the log applied", x.count(5) - turn, 3);
        Kit.due("entries of the second", x.count(4), 23);
        Kit.due("check", x.check(), 0);
    }

    private static void promise36Sync() {
        LedgerFiles x = Kit.mounted(200, 64, 16);
        int f = Kit.file(x, "/f");
        int g = Kit.file(x, "/g");
        x.fill(f, 0, 1500, 1);
        x.fill(g, 0, 300, 1);
        int syncs = x.count(9);
        int writes = x.count(8);
        Kit.due("sync", x.sync(f), 12);
        Kit.due("writes", x.count(8) - writes, 12);
        Kit.due("syncs", x.count(9) - syncs, 1);
        Kit.due("the other's are in the buffer", x.count(6), 3);
        Kit.due("again", x.sync(f), 0);
        Kit.due("the disk syncs then, too", x.count(9) - syncs, 2);
        Kit.due("bytes on the disk", x.byteAt(x.where(f, 0), 1), x.read(f, 1));
        Kit.due("the change stays in the queue", x.count(3), 4);
        x.power(2);
        Kit.call("sync() that fails", Kit.POWER, () -> x.sync(g));
        Kit.due("the first two wait", x.count(7), 2);
        x.restart(9);
        x.mount();
        for (int inode : new int[] {0, -1, 65, 9, Integer.MIN_VALUE, Integer.MAX_VALUE}) {
            Kit.due("sync of inode " + inode, x.sync(inode), -11);
        }
        Kit.due("a directory", x.sync(1), -4);
        x.unmount();
        Kit.call("sync() when not mounted", Kit.STATE, () -> x.sync(2));
    }

    private static void promise36Rising() {
        LedgerFiles x = Kit.mounted(200, 64, 1);
        int f = Kit.file(x, "/f");
        Kit.write(x, f, 512, "second");
        Kit.write(x, f, 0, "first");
        x.apply();
        Kit.write(x, f, 0, "FIRST");
        Kit.write(x, f, 512, "SECOND");
        Kit.due("blocks", x.where(f, 4) < x.where(f, 0), true);
        x.power(1);
        Kit.call("sync() with power for one step", Kit.POWER, () -> x.sync(f));
        Kit.due("the lower block was written", x.waiting(62) * 10 + x.waiting(63), 10);
    }

    private static void promise37Apply() {
        LedgerFiles x = Kit.mounted(200, 64, 16);
        int syncs = x.count(9);
        Kit.due("nothing", x.apply(), 0);
        Kit.due("no step", x.count(9), syncs);
        Kit.file(x, "/f");
        Kit.due("flush, then apply", x.apply(), 4);
        Kit.due("queue", x.count(3), 0);
        Kit.due("entries", x.count(4), 0);
        Kit.due("TURN", x.count(5), 2);
        Kit.due("syncs", x.count(9) - syncs, 4);
        Kit.due("in its place", x.byteAt(43, 7), 63);
        Kit.due("block 2 stays", Kit.onDisk(x, 2, 0, 2), 43);
        Kit.due("head", Kit.onDisk(x, 1, 0, 6), 2 << 16);
        x.mark(1, 1);
        x.flush();
        x.mark(1, 2);
        Kit.due("two entries of one block", x.apply(), 2);
        Kit.due("the last counts", Kit.onDisk(x, 45, 8, 4), 2);
        x.crash();
        Kit.call("apply() without power", Kit.STATE, x::apply);
    }

    private static void promise32WithTheQueue() {
        LedgerFiles x = Kit.mounted(200, 8, 2);
        x.mark(1, 1);
        Kit.due("begin", x.begin(), true);
        for (int i = 2; i < 9; i++) {
            x.mark(1, i);
        }
        Kit.due("the queue is as it was", x.count(3) * 10 + x.count(4), 10);
        Kit.due("steps", x.count(8) + x.count(9), 24);
        Kit.due("begin again", x.begin(), false);
        Kit.due("the group is the same", x.about(1, 2), 8);
        x.undo();
        Kit.due("undone as one", x.about(1, 2), 1);
    }

    private static void promise33AsItWas() {
        LedgerFiles x = Kit.mounted(200, 8, 16);
        int f = Kit.file(x, "/f");
        x.begin();
        x.mark(f, 5);
        x.mark(f, 0);
        Kit.due("a mark that is as it was", x.end(), 0);
        x.begin();
        Kit.rename(x, "/f", "/g");
        Kit.rename(x, "/g", "/f");
        Kit.due("a name that is as it was", x.end(), 0);
        x.begin();
        Kit.write(x, f, 0, "abc");
        Kit.due("43 and 45", x.end(), 2);
        x.begin();
        Kit.write(x, f, 0, "xyz");
        Kit.due("bytes alone", x.end(), 0);
        Kit.due("text", Kit.text(x, f), "xyz");
        Kit.due("changes", x.count(3), 2);
        Kit.due("end() again", x.end(), -9);
    }

    private static void promise33Of40() {
        LedgerFiles x = Kit.mounted(300, 8, 1);
        int f = Kit.file(x, "/f");
        int g = Kit.file(x, "/g");
        for (int extra = 0; extra < 2; extra++) {
            x.begin();
            for (int j = 0; j < 37 + extra; j++) {
                x.fill(f, 9216 + 8192 * j, 1, 1);
            }
            int h = Kit.open(x, "/h", 5);
            x.hold(x.look(h, 0));
            int kept = Kit.open(x, "/g", 0);
            Kit.remove(x, "/h");
            x.close(h);
            x.release(4);
            Kit.due("end() of 40 blocks and " + extra, x.end(), extra == 0 ? 40 : -12);
            Kit.due("a handle on what is there stays", x.look(kept, 0), g);
            x.close(kept);
            Kit.due("size", x.about(f, 1) > 300000, extra == 0);
            Kit.due("rest", x.count(2), 0);
            x.truncate(f, 0);
        }
    }

    private static void promise33TooManyFreesHandles() {
        LedgerFiles x = Kit.mounted(300, 8, 16);
        int f = Kit.file(x, "/f");
        x.begin();
        int h = Kit.open(x, "/new", 5);
        int made = x.look(h, 0);
        x.hold(made);
        for (int j = 0; j < 40; j++) {
            x.fill(f, 9216 + 8192 * j, 1, 1);
        }
        Kit.due("end", x.end(), -12);
        Kit.due("the handle on what is free is free", x.look(h, 0), -13);
        Kit.due("it is not held", x.hold(made), -11);
        Kit.due("undo() behind it", x.undo(), -9);
        Kit.due("the number is given anew, and is not held", x.about(Kit.file(x, "/z"), 6), 0);
    }

    private static void promise34Empty() {
        LedgerFiles x = Kit.mounted(200, 8, 16);
        x.mark(1, 3);
        x.begin();
        Kit.due("undo() of nothing", x.undo(), 0);
        Kit.due("the queue stays", x.count(3), 1);
        Kit.due("undo() again", x.undo(), -9);
        Kit.due("begin()", x.begin(), true);
    }

    private static void promise34FlushIn() {
        LedgerFiles x = Kit.mounted(200, 8, 16);
        int f = Kit.file(x, "/f");
        x.mark(f, 1);
        x.begin();
        x.mark(f, 2);
        Kit.due("flush", x.flush(), 2);
        x.mark(1, 7);
        Kit.due("apply", x.apply(), 4);
        Kit.due("the group's is seen", x.about(f, 2) * 10 + x.about(1, 2), 27);
        x.undo();
        Kit.due("as when it began", x.about(f, 2) * 10 + x.about(1, 2), 10);
    }

    private static void promise34PowerFails() {
        LedgerFiles x = Kit.mounted(200, 8, 1);
        int f = Kit.file(x, "/f");
        x.hold(f);
        Kit.remove(x, "/f");
        x.begin();
        x.release(f);
        x.power(0);
        Kit.call("undo() whose change fails", Kit.POWER, x::undo);
        x.restart(1);
        x.mount();
        Kit.due("lost", x.count(15) * 100 + x.count(1), 63);
        LedgerFiles y = Kit.mounted(200, 8, 1);
        y.begin();
        y.mark(1, 1);
        y.power(0);
        Kit.call("undo() without a change makes no step", 0, y::undo);
    }

    private static void promise35InAGroup() {
        LedgerFiles x = Kit.mounted(200, 8, 16);
        x.begin();
        x.mark(1, 1);
        Kit.due("nothing is in the queue", x.flush(), 0);
        Kit.due("no step", x.count(8) + x.count(9), 24);
        x.end();
        Kit.due("then it is", x.flush(), 1);
    }

    private static void promise36Edges() {
        LedgerFiles x = Kit.mounted(200, 64, 16);
        int f = Kit.file(x, "/f");
        Kit.due("an empty file", x.sync(f), 0);
        Kit.due("the disk syncs", x.count(9), 4);
        x.fill(f, 1024, 1, 1);
        x.fill(f, 9216, 1, 1);
        Kit.due("blocks, not tables", x.sync(f), 2);
        Kit.due("the tables are in the queue", x.count(3), 3);
        x.begin();
        x.fill(f, 0, 1, 1);
        Kit.due("what the group made", x.sync(f), 1);
        x.truncate(f, 0);
        Kit.due("none is left", x.sync(f), 0);
        x.power(0);
        Kit.call("sync() without blocks makes a step", Kit.POWER, () -> x.sync(f));
    }

    private static void promise37InAGroup() {
        LedgerFiles x = Kit.mounted(200, 8, 16);
        x.mark(1, 1);
        x.begin();
        x.mark(1, 2);
        Kit.due("what is in the queue", x.apply(), 1);
        Kit.due("in its place", x.byteAt(45, 8), 1);
        Kit.due("the group's stays", x.count(16) * 10 + x.about(1, 2), 12);
        Kit.due("nothing more", x.apply(), 0);
        x.end();
        Kit.due("then that", x.apply() * 10 + x.byteAt(45, 8), 12);
    }

    private static void promise34TheLastInode() {
        LedgerFiles x = Kit.mounted(200, 8, 16);
        for (int i = 2; i <= 63; i++) {
            Kit.file(x, "/f" + i);
        }
        x.begin();
        int h = Kit.open(x, "/last", 4);
        Kit.due("inode", x.look(h, 0), 64);
        x.hold(64);
        x.undo();
        Kit.due("the handle is free", x.count(17), 0);
        Kit.due("made anew it is not held", x.about(Kit.file(x, "/last"), 6), 0);
    }

    private static void promise35GroupsBlocksRestOn() {
        LedgerFiles x = Kit.mounted(200, 8, 16);
        int f = Kit.file(x, "/f");
        x.fill(f, 0, 640, 1);
        x.flush();
        x.punch(f, 256, 128);
        Kit.due("one rests for the queue", x.count(2), 1);
        x.begin();
        x.punch(f, 128, 128);
        Kit.due("one for the group, too", x.count(2), 2);
        Kit.due("flush", x.flush(), 1);
        Kit.due("the group's rests on", x.count(2), 1);
        Kit.write(x, f, 640, "a");
        Kit.due("the queue's is taken", x.where(f, 5), 64);
        Kit.write(x, f, 768, "b");
        Kit.due("the group's is not", x.where(f, 6), 67);
        Kit.due("end", x.end(), 2);
        Kit.due("it rests for the change", x.count(2), 1);
        Kit.write(x, f, 896, "c");
        Kit.due("so it is not taken", x.where(f, 7), 68);
        x.flush();
        Kit.due("behind it none rests", x.count(2), 0);
        Kit.write(x, f, 1024, "d");
        Kit.due("then it is taken: the first table", Kit.seen(x, 45, 32 + 28, 2), 63);
        Kit.due("check", x.check(), 0);
    }

    private static void promise35BlockOneElseZero() {
        LedgerFiles x = Kit.mounted(200, 8, 16);
        for (int i = 0; i < 12; i++) {
            Kit.file(x, "/f" + i);
        }
        x.flush();
        Kit.due("entries", x.count(4), 8);
        int bytes = 0;
        for (int i = 10; i < 128; i++) {
            bytes += x.byteAt(1, i);
        }
        Kit.due("block 1 behind its SUM", bytes, 0);
        bytes = 0;
        for (int i = 16; i < 128; i++) {
            bytes += x.byteAt(2, i);
        }
        Kit.due("block 2 behind its numbers", bytes, 0);
    }

    private static void promise36ItsOwnBlocksAlone() {
        LedgerFiles x = Kit.mounted(200, 64, 16);
        int f = Kit.file(x, "/f");
        int g = Kit.file(x, "/g");
        x.fill(f, 0, 500, 1);
        x.fill(g, 0, 100, 1);
        Kit.due("blocks of another one", x.about(f, 3), 4);
        Kit.due("sync", x.sync(g), 1);
        Kit.due("the other's stay in the buffer", x.count(6), 4);
    }

    public static void main(String[] args) {
        promise32Begin();
        promise33End();
        promise33TooMany();
        promise33TooManyWithLost();
        promise33Flushes();
        promise33FreeBlocksAreSeenAsBefore();
        promise34Undo();
        promise34LostGo();
        promise34HandleOnDirectory();
        promise34FreedInGroup();
        promise35Flush();
        promise35Batches();
        promise36Sync();
        promise36Rising();
        promise37Apply();
        promise32WithTheQueue();
        promise33AsItWas();
        promise33Of40();
        promise33TooManyFreesHandles();
        promise34Empty();
        promise34FlushIn();
        promise34PowerFails();
        promise35InAGroup();
        promise36Edges();
        promise37InAGroup();
        promise34TheLastInode();
        promise35GroupsBlocksRestOn();
        promise35BlockOneElseZero();
        promise36ItsOwnBlocksAlone();
        Kit.done();
    }
}
