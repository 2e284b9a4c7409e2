/** Promises 14 to 25: files, by inodes. */
public final class FilesTest {
    private static final int[] NO_INODES = {0, -1, 65, 5, Integer.MIN_VALUE, Integer.MAX_VALUE};

    /** Inode 2 is a directory, inode 3 a file. */
    private static LedgerFiles withFile(int blocks, int buffer, int group) {
        LedgerFiles x = Kit.mounted(blocks, buffer, group);
        Kit.directory(x, "/d");
        Kit.file(x, "/f");
        return x;
    }

    private static void promise14Write() {
        LedgerFiles x = withFile(128, 8, 4);
        Kit.due("write", Kit.write(x, 3, 0, "hello"), 5);
        Kit.due("text", Kit.text(x, 3), "hello");
        Kit.due("over it", Kit.write(x, 3, 1, "a"), 1);
        Kit.due("text", Kit.text(x, 3), "hallo");
        Kit.due("size stays", x.about(3, 1), 5);
        Kit.due("over its end", Kit.write(x, 3, 4, "o!"), 2);
        Kit.due("text", Kit.text(x, 3), "hallo!");
        Kit.due("behind a hole", Kit.write(x, 3, 300, "z"), 1);
        Kit.due("size", x.about(3, 1), 301);
        Kit.due("the hole", x.where(3, 1) * 256 + x.read(3, 200), 0);
        Kit.due("the block behind", Kit.notZero(x, x.where(3, 2)), 1);
        Kit.due("over two blocks", Kit.write(x, 3, 126, "abcd"), 4);
        Kit.due("its bytes", (char) x.read(3, 126) + "" + (char) x.read(3, 129), "ad");
        int changes = x.count(3);
        Kit.due("no tables change", Kit.write(x, 3, 126, "ABCD"), 4);
        Kit.due("no change", x.count(3), changes);
        Kit.due("without bytes", x.write(3, 400000), 0);
        Kit.due("size then", x.about(3, 1), 301);
        Kit.due("the last byte there can be", Kit.write(x, 3, 399999, "x"), 1);
        Kit.due("size", x.about(3, 1), 400000);
        Kit.due("check", x.check(), 0);
    }

    private static void promise14Wrong() {
        LedgerFiles x = withFile(128, 8, 4);
        for (int inode : NO_INODES) {
            Kit.due("write of inode " + inode, Kit.write(x, inode, -1, "a"), -11);
        }
        Kit.due("a directory", Kit.write(x, 2, -1, "a"), -4);
        Kit.due("the root", Kit.write(x, 1, 0, "a"), -4);
        Kit.due("below 0", Kit.write(x, 3, -1, "a"), -10);
        Kit.due("below 0 without bytes", x.write(3, -1), -10);
        Kit.due("beyond 400,000 without bytes", x.write(3, 400001), -10);
        Kit.due("ends beyond", Kit.write(x, 3, 399999, "ab"), -10);
        Kit.due("the highest int", Kit.write(x, 3, Integer.MAX_VALUE, "ab"), -10);
        Kit.due("size", x.about(3, 1), 0);
        Kit.due("the tape", x.count(12), 0);
        x.unmount();
        Kit.tape(x, "abc");
        Kit.call("write() when not mounted", Kit.STATE, () -> x.write(3, 0));
        Kit.due("the tape behind that", x.count(12), 0);
    }

    private static void promise14NoBlocks() {
        LedgerFiles x = withFile(128, 8, 1);
        int blocks = x.count(0);
        for (int at = 0; at < 8 * 128; at += 128) {
            x.fill(3, at, 128, 1);
        }
        x.truncate(3, 0);
        int other = Kit.file(x, "/o");
        Kit.fillUp(x, other, 4);
        Kit.due("blocks at first", blocks, 66);
        Kit.due("a far block wants two tables, two of them three", Kit.write(x, 3, 9216 + 127, "ab"), 2);
        Kit.due("none is free", x.count(0), 0);
        x.truncate(3, 0);
        Kit.due("three are too many here", x.fill(3, 9216, 257, 1), -7);
        Kit.due("none was taken", x.count(0), 4);
        Kit.due("over what is there none is wanted", x.fill(other, 0, 1000, 9), 1000);
        Kit.due("check", x.check(), 0);
    }

    private static void promise14TablesFirst() {
        LedgerFiles x = withFile(200, 8, 4);
        Kit.write(x, 3, 9216, "a");
        Kit.due("second table", Kit.seen(x, 45, 64 + 30, 2), 62);
        Kit.due("the table that it tells", Kit.seen(x, 62, 0, 2), 63);
        Kit.due("the block", x.where(3, 72), 64);
        Kit.write(x, 3, 1024, "a");
        Kit.due("first table", Kit.seen(x, 45, 64 + 28, 2), 65);
        Kit.due("its block", x.where(3, 8), 66);
        Kit.write(x, 3, 7 * 128, "abc");
        Kit.due("a block of the inode", x.where(3, 7), 67);
        Kit.write(x, 3, 9216 + 64 * 128, "a");
        Kit.due("the next table", Kit.seen(x, 62, 2, 2), 68);
        Kit.due("the last of the first table", x.where(3, 71), 0);
    }

    private static void promise14Directly() {
        LedgerFiles x = withFile(128, 4, 16);
        int writes = x.count(8);
        for (int i = 0; i < 4; i++) {
            Kit.write(x, 3, 128 * i, "x");
        }
        Kit.due("no writes of the disk", x.count(8) - writes, 0);
        Kit.due("in the buffer", x.count(6), 4);
        Kit.write(x, 3, 0, "y");
        Kit.write(x, 3, 512, "z");
        Kit.due("one block went out of the full buffer", x.count(8) - writes, 1);
        Kit.due("it was put longest ago", x.byteAt(x.where(3, 1), 0), (int) 'x');
        Kit.due("the one that was put again is not", x.byteAt(x.where(3, 0), 0), 0);
    }

    private static void promise14Resting() {
        LedgerFiles x = withFile(128, 8, 16);
        x.fill(3, 0, 640, 1);
        x.truncate(3, 256);
        Kit.due("three blocks rest", x.count(2), 3);
        int g = Kit.file(x, "/g");
        Kit.write(x, g, 0, "a");
        Kit.due("they are not taken", x.where(g, 0), 67);
        x.flush();
        Kit.due("nothing rests", x.count(2), 0);
        Kit.write(x, g, 128, "b");
        Kit.due("then they are", x.where(g, 1), 64);
        Kit.due("its old bytes are not seen", Kit.notZero(x, 64), 1);
    }

    private static void promise14FlushesToTake() {
        LedgerFiles x = withFile(128, 64, 16);
        Kit.fillUp(x, 3, 0);
        int size = x.about(3, 1);
        x.flush();
        x.truncate(3, size - 256);
        Kit.due("all that are free rest", x.count(0) * 10 + x.count(2), 22);
        Kit.due("to take one flushes", x.fill(3, size - 256, 200, 1), 200);
        Kit.due("so one change is in the queue", x.count(3), 1);
        Kit.due("none is free", x.count(0), 0);
        Kit.due("check", x.check(), 0);
    }

    private static void promise14LogHasIt() {
        // a directory's block is in the log; when a file has it, queue and log are emptied ahead of its bytes
        LedgerFiles x = Kit.mounted(128, 8, 1);
        Kit.directory(x, "/d");
        Kit.file(x, "/d/f");
        Kit.remove(x, "/d/f");
        int block = x.where(2, 0);
        Kit.remove(x, "/d");
        int f = Kit.file(x, "/g");
        Kit.due("entries", x.count(4) > 0, true);
        int turn = x.count(5);
        Kit.write(x, f, 0, "bytes");
        Kit.due("the block is the same", x.where(f, 0), block);
        Kit.due("the log was applied, then the change flushed", x.count(5) - turn, 2);
        Kit.due("its entries are those of the change", x.count(4), 2);
        Kit.due("text", Kit.text(x, f), "bytes");
    }

    private static void promise15Fill() {
        LedgerFiles x = withFile(200, 8, 4);
        Kit.due("fill", x.fill(3, 10, 2000, 77), 2000);
        for (int i = 0; i < 2000; i++) {
            if (x.read(3, 10 + i) != (77 + i * i + (i >> 5) & 255)) {
                Kit.due("byte " + i, x.read(3, 10 + i), 77 + i * i + (i >> 5) & 255);
            }
        }
        Kit.due("size", x.about(3, 1), 2010);
        Kit.due("a wrapping seed", x.fill(3, 0, 3, Integer.MAX_VALUE), 3);
        Kit.due("its bytes", x.read(3, 0) * 65536 + x.read(3, 1) * 256 + x.read(3, 2), 255 * 65536 + 3);
        Kit.due("no bytes", x.fill(3, 400000, 0, 1), 0);
        Kit.due("no bytes beyond", x.fill(3, 400001, 0, 1), -10);
        Kit.due("beyond", x.fill(3, 399999, 2, 1), -10);
        Kit.due("below 0", x.fill(3, -1, 2, 1), -10);
        for (int n : new int[] {-1, 2001, Integer.MIN_VALUE, Integer.MAX_VALUE}) {
            Kit.call("fill of n " + n, Kit.ARGUMENT, () -> x.fill(99, -1, n, 1));
        }
        for (int inode : NO_INODES) {
            Kit.due("fill of inode " + inode, x.fill(inode, -1, 1, 1), -11);
        }
        Kit.due("a directory", x.fill(2, -1, 1, 1), -4);
        Kit.tape(x, "tape");
        x.fill(3, 0, 1, 1);
        Kit.due("the tape stays", x.count(12), 4);
        x.unmount();
        Kit.call("fill() when not mounted", Kit.STATE, () -> x.fill(3, 0, -1, 1));
    }

    private static void promise16Truncate() {
        LedgerFiles x = withFile(200, 8, 16);
        int free = x.count(0);
        Kit.write(x, 3, 0, "hello");
        Kit.due("less", x.truncate(3, 2), 0);
        Kit.due("text", Kit.text(x, 3), "he");
        Kit.due("more", x.truncate(3, 6), 0);
        Kit.due("text", Kit.text(x, 3), "he\0\0\0\0");
        Kit.due("to the end", x.truncate(3, 400000), 0);
        Kit.due("a byte of the hole", x.read(3, 399999), 0);
        Kit.due("blocks", x.about(3, 3), 1);
        Kit.due("nothing", x.truncate(3, 0), 0);
        Kit.due("all is free", x.count(0), free);
        int changes = x.count(3);
        Kit.due("the same size", x.truncate(3, 0), 0);
        Kit.due("no change", x.count(3), changes);
        for (int inode : NO_INODES) {
            Kit.due("truncate of inode " + inode, x.truncate(inode, -1), -11);
        }
        Kit.due("a directory", x.truncate(2, -1), -4);
        Kit.due("below 0", x.truncate(3, -1), -10);
        Kit.due("beyond 400,000", x.truncate(3, 400001), -10);
        x.crash();
        Kit.call("truncate() without power", Kit.STATE, () -> x.truncate(3, 0));
    }

    private static void promise16Tables() {
        LedgerFiles x = withFile(300, 8, 16);
        Kit.write(x, 3, 0, "a");
        Kit.write(x, 3, 1024, "b");
        Kit.write(x, 3, 9216, "c");
        Kit.write(x, 3, 9216 + 8192, "d");
        Kit.due("4 blocks, 4 tables", x.about(3, 3), 8);
        int second = (int) Kit.seen(x, 45, 64 + 30, 2);
        x.truncate(3, 9216 + 8192);
        Kit.due("the last block and its table are free", x.about(3, 3), 6);
        Kit.due("its number in the second table", Kit.seen(x, second, 2, 2), 0);
        x.truncate(3, 9217);
        Kit.due("nothing more", x.about(3, 3), 6);
        x.truncate(3, 9216);
        Kit.due("second table and all of it", x.about(3, 3), 3);
        Kit.due("its number in the inode", Kit.seen(x, 45, 64 + 30, 2), 0);
        Kit.due("it keeps its bytes", Kit.seen(x, second, 0, 2) != 0, true);
        x.truncate(3, 1025);
        Kit.due("the first table stays for a byte", x.about(3, 3), 3);
        x.truncate(3, 1024);
        Kit.due("then it is free", x.about(3, 3), 1);
        Kit.due("its number in the inode", Kit.seen(x, 45, 64 + 28, 2), 0);
        Kit.due("check", x.check(), 0);
        Kit.write(x, 3, 1024, "b");
        x.punch(3, 1024, 128);
        Kit.due("a table without blocks", x.about(3, 3), 2);
        x.truncate(3, 1024);
        Kit.due("is free, too", x.about(3, 3), 1);
        Kit.due("check", x.check(), 0);
    }

    private static void promise16ZerosBehindTheEnd() {
        LedgerFiles x = withFile(128, 8, 16);
        x.fill(3, 0, 300, 1);
        x.sync(3);
        int block = x.where(3, 1);
        x.truncate(3, 130);
        Kit.due("the last block is in the buffer again", x.count(6), 1);
        Kit.due("its bytes", Kit.seen(x, block, 0, 8) >> 16, 0);
        x.sync(3);
        x.truncate(3, 128);
        Kit.due("at a block's end nothing is written", x.count(6), 0);
        x.truncate(3, 1000);
        x.truncate(3, 900);
        Kit.due("nor in a hole", x.count(6), 0);
    }

    private static void promise17Mark() {
        LedgerFiles x = withFile(128, 8, 16);
        Kit.due("mark", x.mark(3, -2), 0);
        Kit.due("mark of the file", x.about(3, 2), -2);
        Kit.due("of a directory", x.mark(2, Integer.MAX_VALUE), 0);
        Kit.due("its mark", x.about(2, 2), Integer.MAX_VALUE);
        Kit.due("of the root", x.mark(1, Integer.MIN_VALUE), 0);
        Kit.due("on the block", Kit.seen(x, 45, 8, 4), 0x80000000L);
        int changes = x.count(3);
        x.mark(1, Integer.MIN_VALUE);
        Kit.due("the same makes no change", x.count(3), changes);
        for (int inode : NO_INODES) {
            Kit.due("mark of inode " + inode, x.mark(inode, 1), -11);
        }
        x.crash();
        Kit.call("mark() without power", Kit.STATE, () -> x.mark(1, 1));
    }

    private static void promise18Punch() {
        LedgerFiles x = withFile(200, 64, 16);
        x.fill(3, 0, 1920, 5);
        int free = x.count(0);
        Kit.due("whole blocks", x.punch(3, 128, 256), 2);
        Kit.due("they are holes", x.where(3, 1) + x.where(3, 2), 0);
        Kit.due("free", x.count(0) - free, 2);
        Kit.due("they rest", x.count(2), 2);
        Kit.due("size", x.about(3, 1), 1920);
        Kit.due("again", x.punch(3, 128, 256), 0);
        int before = x.read(3, 384);
        Kit.due("parts of two blocks", x.punch(3, 400, 200), 0);
        Kit.due("0 in them", x.read(3, 400) + x.read(3, 599), 0);
        Kit.due("not beside them", x.read(3, 384) == before && x.read(3, 600) != 0, true);
        Kit.due("a part within one block", x.punch(3, 1800, 20), 0);
        Kit.due("0 in it", x.read(3, 1800) + x.read(3, 1819), 0);
        Kit.due("one block of the first table", x.punch(3, 1030, 250), 1);
        Kit.due("which one", x.where(3, 9) == 0 && x.where(3, 8) != 0, true);
        Kit.due("no bytes", x.punch(3, 0, 0), 0);
        Kit.due("to the end", x.punch(3, 0, 400000), 12);
        Kit.due("its table stays", x.about(3, 3), 1);
        Kit.due("size", x.about(3, 1), 1920);
        Kit.due("check", x.check(), 0);
    }

    private static void promise18Edges() {
        LedgerFiles x = withFile(200, 64, 16);
        x.fill(3, 0, 200, 5);
        x.sync(3);
        Kit.due("a range behind the size in its last block", x.punch(3, 200, 50), 0);
        Kit.due("is not written", x.count(6), 0);
        Kit.due("a range over the size", x.punch(3, 190, 50), 0);
        Kit.due("is written", x.count(6), 1);
        Kit.due("blocks stay", x.about(3, 3), 2);
        x.sync(3);
        Kit.due("two parts of a file that ends between", x.punch(3, 120, 300), 1);
        Kit.due("only the first is written", x.count(6), 1);
        x.begin();
        Kit.write(x, 3, 0, "in a group, behind the size later");
        x.end();
        for (int inode : NO_INODES) {
            Kit.due("punch of inode " + inode, x.punch(inode, -1, 1), -11);
        }
        Kit.due("a directory", x.punch(2, -1, 1), -4);
        Kit.due("at below 0", x.punch(3, -1, 1), -10);
        Kit.due("n below 0", x.punch(3, 1, -1), -10);
        Kit.due("beyond", x.punch(3, 1, 400000), -10);
        Kit.due("the highest ints", x.punch(3, Integer.MAX_VALUE, Integer.MAX_VALUE), -10);
        Kit.due("up to 400,000", x.punch(3, 399999, 1), 0);
        x.crash();
        Kit.call("punch() without power", Kit.STATE, () -> x.punch(3, 0, 1));
    }

    private static void promise18TooManyTables() {
        LedgerFiles x = withFile(300, 8, 16);
        x.fill(3, 1024, 1, 1);
        for (int j = 0; j < 32; j++) {
            x.fill(3, 9216 + 8192 * j, 1, 1);
        }
        x.fill(3, 0, 1, 1);
        Kit.due("numbers in 33 tables", x.punch(3, 0, 400000), -12);
        x.begin();
        Kit.due("in a group, too", x.punch(3, 0, 400000), -12);
        x.end();
        Kit.due("blocks", x.about(3, 3), 34 + 34);
        Kit.due("numbers in 32 tables", x.punch(3, 2048, 390000), 32);
        Kit.due("numbers in one, and the inode", x.punch(3, 0, 400000), 2);
        Kit.due("tables", x.about(3, 3), 34);
        Kit.due("check", x.check(), 0);
    }

    private static void promise19Hold() {
        LedgerFiles x = withFile(128, 8, 16);
        for (int i = 1; i <= 100; i++) {
            Kit.due("hold " + i, x.hold(3), i);
        }
        Kit.due("hold 101", x.hold(3), -9);
        Kit.due("a directory", x.hold(2), 1);
        Kit.due("the root", x.hold(1), 1);
        int h = Kit.open(x, "/f", 0);
        Kit.due("handles are not counted", x.hold(3), -9);
        Kit.due("but here", x.about(3, 6), 101);
        x.close(h);
        for (int inode : NO_INODES) {
            Kit.due("hold of inode " + inode, x.hold(inode), -11);
        }
        x.unmount();
        Kit.call("hold() when not mounted", Kit.STATE, () -> x.hold(3));
    }

    private static void promise20Release() {
        LedgerFiles x = withFile(128, 8, 16);
        Kit.due("not held", x.release(3), -9);
        int h = Kit.open(x, "/f", 0);
        Kit.due("held by a handle alone", x.release(3), -9);
        x.hold(3);
        x.hold(3);
        Kit.due("once less", x.release(3), 1);
        Kit.remove(x, "/f");
        Kit.due("lost", x.count(15), 1);
        Kit.due("not by hold() any more", x.release(3), 0);
        Kit.due("the handle holds it", x.about(3, 5), 0);
        x.hold(3);
        x.close(h);
        int changes = x.count(3);
        Kit.due("nothing holds it any more", x.release(3), 0);
        Kit.due("it went", x.about(3, 0), -11);
        Kit.due("a change", x.count(3) - changes, 1);
        for (int inode : NO_INODES) {
            Kit.due("release of inode " + inode, x.release(inode), -11);
        }
        x.hold(2);
        Kit.due("a name stays", x.release(2), 0);
        Kit.due("so does the inode", x.about(2, 0), 2);
        x.crash();
        Kit.call("release() without power", Kit.STATE, () -> x.release(2));
    }

    private static void promise21Read() {
        LedgerFiles x = withFile(128, 8, 16);
        x.feed(0xff800001, 0, 0, 0, 0);
        x.write(3, 126);
        Kit.due("a byte of the hole", x.read(3, 0), 0);
        Kit.due("255", x.read(3, 126), 255);
        Kit.due("128", x.read(3, 127), 128);
        Kit.due("the next block", x.read(3, 129), 1);
        Kit.due("the last", x.read(3, 145), 0);
        Kit.due("behind it", x.read(3, 146), -1);
        Kit.due("below 0", x.read(3, -1), -1);
        Kit.due("the highest int", x.read(3, Integer.MAX_VALUE), -1);
        Kit.due("a directory", x.read(1, 0), -1);
        for (int inode : NO_INODES) {
            Kit.due("read of inode " + inode, x.read(inode, 0), -1);
        }
        x.unmount();
        Kit.call("read() when not mounted", Kit.STATE, () -> x.read(3, 0));
    }

    private static void promise22About() {
        LedgerFiles x = withFile(128, 8, 16);
        x.fill(3, 0, 1100, 1);
        x.mark(3, 9);
        Kit.link(x, "/f", "/d/g");
        Kit.file(x, "/d/h");
        x.hold(3);
        Kit.open(x, "/f", 0);
        int[][] due = {{1, 2, 128, 0, 1, 2, 1, 0}, {2, 2, 128, 0, 1, 2, 1, 0}, {3, 1, 1100, 9, 10, 0, 2, 2}};
        for (int[] d : due) {
            for (int what = 0; what < 7; what++) {
                Kit.due("about(" + d[0] + ", " + what + ")", x.about(d[0], what), d[1 + what]);
            }
        }
        Kit.call("what -1", Kit.ARGUMENT, () -> x.about(99, -1));
        Kit.call("what 7", Kit.ARGUMENT, () -> x.about(3, 7));
        for (int inode : NO_INODES) {
            Kit.due("about inode " + inode, x.about(inode, 0), -11);
        }
        x.crash();
        Kit.call("about() without power", Kit.STATE, () -> x.about(3, 7));
    }

    private static void promise23Where() {
        LedgerFiles x = withFile(128, 8, 16);
        Kit.due("the root's block", x.where(1, 0), 61);
        Kit.due("behind a directory's size", x.where(1, 1), 0);
        Kit.write(x, 3, 128 * 3124, "far");
        Kit.due("a hole", x.where(3, 0), 0);
        Kit.due("the last there can be", x.where(3, 3124), 64);
        Kit.due("behind the size", x.where(3, 3125), 0);
        Kit.due("the last k", x.where(3, 4167), 0);
        Kit.call("k 4168", Kit.ARGUMENT, () -> x.where(99, 4168));
        Kit.call("k -1", Kit.ARGUMENT, () -> x.where(3, -1));
        for (int inode : NO_INODES) {
            Kit.due("where of inode " + inode, x.where(inode, 0), -11);
        }
        x.unmount();
        Kit.call("where() when not mounted", Kit.STATE, () -> x.where(3, -1));
    }

    private static void promise24Entry() {
        LedgerFiles x = withFile(128, 8, 16);
        Kit.file(x, "/g");
        Kit.remove(x, "/d");
        Kit.due("name 0", x.entry(1, 0), 3);
        Kit.due("name 1", x.entry(1, 1), 4);
        Kit.call("name 2", Kit.NO_ELEMENT, () -> x.entry(1, 2));
        Kit.call("name -1", Kit.NO_ELEMENT, () -> x.entry(1, -1));
        Kit.call("of a file", Kit.NO_ELEMENT, () -> x.entry(3, 0));
        for (int inode : NO_INODES) {
            Kit.call("entry of inode " + inode, Kit.NO_ELEMENT, () -> x.entry(inode, 0));
        }
        x.crash();
        Kit.call("entry() without power", Kit.STATE, () -> x.entry(1, 2));
    }

    private static void promise25Letter() {
        LedgerFiles x = withFile(128, 8, 16);
        Kit.file(x, "/thirteen-13-z");
        Kit.due("first", x.letter(1, 2, 0), (int) 't');
        Kit.due("last", x.letter(1, 2, 12), (int) 'z');
        Kit.due("behind the end", x.letter(1, 2, 13), -1);
        Kit.due("far behind", x.letter(1, 2, Integer.MAX_VALUE), -1);
        Kit.due("behind a short one", x.letter(1, 0, 1), -1);
        Kit.call("i -1", Kit.NO_ELEMENT, () -> x.letter(1, 2, -1));
        Kit.call("name 3", Kit.NO_ELEMENT, () -> x.letter(1, 3, 0));
        Kit.call("name -1", Kit.NO_ELEMENT, () -> x.letter(1, -1, 0));
        Kit.call("of a file", Kit.NO_ELEMENT, () -> x.letter(3, 0, 0));
        for (int inode : NO_INODES) {
            Kit.call("letter of inode " + inode, Kit.NO_ELEMENT, () -> x.letter(inode, 0, 0));
        }
        x.unmount();
        Kit.call("letter() when not mounted", Kit.STATE, () -> x.letter(1, 3, 0));
    }

    private static void promise14Edges() {
        LedgerFiles x = withFile(200, 8, 16);
        for (int i = 0; i < 51; i++) {
            x.feed(0x61616161, 0x62626262, 0x63636363, 0x64646464, 0x65656565);
        }
        x.back(16);
        x.feed(0x61616161, 0x62626262, 0x63636363, 0x64646464, 0x66666666);
        Kit.due("a whole tape that would end behind 400,000", x.write(3, 398977), -10);
        Kit.due("the tape is used up", x.count(12), 0);
        for (int i = 0; i < 51; i++) {
            x.feed(0x61616161, 0x62626262, 0x63636363, 0x64646464, 0x65656565);
        }
        x.back(16);
        x.feed(0x61616161, 0x62626262, 0x63636363, 0x64646464, 0x66666666);
        Kit.due("a whole tape that ends at 400,000", x.write(3, 398976), 1024);
        Kit.due("its last byte", x.read(3, 399999), (int) 'f');
        Kit.due("size", x.about(3, 1), 400000);
        Kit.due("eight blocks, a second table, a table", x.about(3, 3), 10);
        Kit.due("a block's last byte alone", Kit.write(x, 3, 127, "x"), 1);
        Kit.due("one block", x.about(3, 3), 11);
        Kit.due("a block's last byte and the next one's first", Kit.write(x, 3, 255, "yz"), 2);
        Kit.due("two blocks", x.about(3, 3), 13);
    }

    private static void promise14BytesOfAHole() {
        // the block that is taken has old bytes: who reads sees 0s beside the new ones
        LedgerFiles x = withFile(128, 8, 1);
        x.fill(3, 0, 384, 77);
        x.truncate(3, 0);
        Kit.write(x, 3, 260, "a");
        Kit.due("the lowest of the old blocks", x.where(3, 2), 62);
        Kit.due("one byte is not 0", Kit.notZero(x, 62), 1);
        Kit.due("the byte ahead", x.read(3, 259), 0);
    }

    private static void promise15Edges() {
        LedgerFiles x = withFile(128, 8, 16);
        Kit.due("the last 2,000 bytes", x.fill(3, 398000, 2000, 5), 2000);
        Kit.due("one more", x.fill(3, 398001, 2000, 5), -10);
        Kit.due("byte 1999", x.read(3, 399999), 5 + 1999 * 1999 + (1999 >> 5) & 255);
        Kit.due("byte 32", x.read(3, 398032), 5 + 32 * 32 + 1 & 255);
        Kit.due("byte 31", x.read(3, 398031), 5 + 31 * 31 & 255);
        Kit.due("a seed below 0", x.fill(3, 0, 1, -1), 1);
        Kit.due("its byte", x.read(3, 0), 255);
        Kit.due("n 0 of a directory", x.fill(2, 0, 0, 1), -4);
        Kit.due("n 0 of a free inode", x.fill(9, 0, 0, 1), -11);
    }

    private static void promise15NoBlocks() {
        LedgerFiles x = withFile(128, 8, 1);
        int g = Kit.file(x, "/g");
        Kit.fillUp(x, g, 15);
        Kit.due("2,000 bytes want sixteen and a table", x.fill(3, 0, 2000, 1), -7);
        Kit.due("nothing has changed", x.count(0) * 10 + x.about(3, 1), 150);
        Kit.due("1,792 want fourteen and a table", x.fill(3, 0, 1792, 1), 1792);
        Kit.due("none is free", x.count(0), 0);
        Kit.due("-10 ahead of -7", x.fill(3, 399999, 2, 1), -10);
    }

    private static void promise16Edges() {
        LedgerFiles x = withFile(200, 8, 16);
        x.fill(3, 0, 1280, 3);
        x.flush();
        int free = x.count(0);
        Kit.due("by one byte of the last block", x.truncate(3, 1279), 0);
        Kit.due("no block is free", x.count(0), free);
        Kit.due("to one byte of it", x.truncate(3, 1153), 0);
        Kit.due("no block is free still", x.count(0), free);
        Kit.due("to its first byte", x.truncate(3, 1152), 0);
        Kit.due("it is free", x.count(0), free + 1);
        int table = (int) Kit.seen(x, 45, 64 + 28, 2);
        Kit.due("its number in the table that stays", Kit.seen(x, table, 2, 2), 0);
        Kit.due("the other's stays", Kit.seen(x, table, 0, 2), x.where(3, 8));
        int kept = x.where(3, 8);
        Kit.due("to the inode's blocks", x.truncate(3, 1024), 0);
        Kit.due("block and table are free", x.count(0), free + 3);
        Kit.due("a table that goes keeps its bytes", Kit.seen(x, table, 0, 2), kept);
        Kit.due("to one byte", x.truncate(3, 1), 0);
        Kit.due("a block stays", x.about(3, 3), 1);
        Kit.due("the others' numbers are 0", Kit.seen(x, 45, 64 + 14, 8), 0);
        Kit.due("to nothing", x.truncate(3, 0), 0);
        Kit.due("none stays", x.about(3, 3), 0);
        Kit.due("all numbers are 0", Kit.seen(x, 45, 64 + 12, 8), 0);
    }

    private static void promise16LastTable() {
        LedgerFiles x = withFile(200, 8, 16);
        Kit.write(x, 3, 9216 + 8192 * 46, "a");
        Kit.write(x, 3, 399999, "b");
        Kit.due("two blocks, two tables, the second one", x.about(3, 3), 5);
        x.truncate(3, 9216 + 8192 * 47 + 1);
        Kit.due("a table for one byte of a hole stays", x.about(3, 3), 4);
        x.truncate(3, 9216 + 8192 * 47);
        Kit.due("then it is free", x.about(3, 3), 3);
        x.truncate(3, 9217);
        Kit.due("the table before it, too", x.about(3, 3), 1);
        Kit.due("the second table stays for one byte", Kit.seen(x, 45, 64 + 30, 2) != 0, true);
        x.truncate(3, 9216);
        Kit.due("then it is free", x.about(3, 3), 0);
        Kit.due("check", x.check(), 0);
    }

    private static void promise18WholeBlocks() {
        LedgerFiles x = withFile(128, 64, 16);
        x.fill(3, 0, 640, 5);
        x.sync(3);
        Kit.due("a byte less than a block", x.punch(3, 128, 127), 0);
        Kit.due("is written", x.count(6), 1);
        x.sync(3);
        Kit.due("from the second byte of one on", x.punch(3, 257, 127), 0);
        Kit.due("is written", x.count(6), 1);
        x.sync(3);
        Kit.due("a block", x.punch(3, 128, 128), 1);
        Kit.due("a byte more at both ends", x.punch(3, 255, 130), 1);
        Kit.due("of the block behind it one byte is written, the one ahead is a hole", x.count(6), 1);
        Kit.due("its number", x.where(3, 2), 0);
        Kit.due("the first byte of the next", x.read(3, 384), 0);
        Kit.due("its second byte", x.read(3, 385), 5 + 385 * 385 + (385 >> 5) & 255);
    }

    private static void promise18RisingAndBehind() {
        // the numbers become 0 ahead of the bytes; of the bytes the lower place is written first
        LedgerFiles x = withFile(128, 4, 16);
        x.fill(3, 0, 512, 5);
        x.sync(3);
        Kit.file(x, "/g");
        x.fill(4, 0, 384, 5);
        Kit.due("punch", x.punch(3, 100, 300), 2);
        Kit.due("the buffer is full", x.count(6), 4);
        Kit.due("written out", x.waiting(66), 1);
        x.fill(4, 0, 1, 5);
        x.fill(4, 384, 1, 5);
        Kit.due("the other's two go ahead of them", x.waiting(67) + x.waiting(68), 2);
        x.fill(4, 128, 1, 5);
        Kit.due("then the lower place's, which was put first", x.waiting(62) * 10 + x.waiting(65), 10);
    }

    private static void promise18LastBlockOfTheSize() {
        LedgerFiles x = withFile(128, 64, 16);
        x.fill(3, 0, 200, 5);
        Kit.due("up to the size: not the whole block", x.punch(3, 128, 72), 0);
        Kit.due("it stays", x.where(3, 1) != 0, true);
        Kit.due("the whole block, beyond the size", x.punch(3, 128, 128), 1);
        Kit.due("it is a hole", x.where(3, 1), 0);
        Kit.due("the size stays", x.about(3, 1), 200);
    }

    private static void promise18BytesBehindTheSizeStay() {
        LedgerFiles x = withFile(128, 8, 16);
        Kit.write(x, 3, 0, "ab");
        x.begin();
        Kit.write(x, 3, 2, "cdef");
        x.undo();
        Kit.due("a range over the size", x.punch(3, 1, 3), 0);
        x.truncate(3, 6);
        Kit.due("only bytes below the size became 0", Kit.text(x, 3), "a\0cdef");
    }

    private static void promise19Edges() {
        LedgerFiles x = withFile(128, 8, 16);
        for (int i = 0; i < 100; i++) {
            x.hold(3);
        }
        Kit.due("100 times", x.hold(3), -9);
        Kit.due("once less", x.release(3), 99);
        Kit.due("once more", x.hold(3), 100);
        for (int i = 99; i >= 0; i--) {
            Kit.due("release", x.release(3), i);
        }
        Kit.due("not held", x.release(3), -9);
        Kit.due("inode 64 is free", x.hold(64), -11);
    }

    private static void promise23Edges() {
        LedgerFiles x = withFile(128, 8, 16);
        x.fill(3, 0, 1025, 1);
        Kit.due("the last block of the inode", x.where(3, 7), 69);
        Kit.due("the first of the first table", x.where(3, 8), 71);
        Kit.due("behind the size", x.where(3, 9), 0);
        Kit.write(x, 3, 9215, "ab");
        Kit.due("the last of the first table", x.where(3, 71), 72);
        Kit.due("the first of the second's first", x.where(3, 72), 75);
        Kit.write(x, 3, 9216 + 8191, "ab");
        Kit.due("the last of that", x.where(3, 135), 76);
        Kit.due("the first of the next", x.where(3, 136), 78);
        x.truncate(3, 9216);
        Kit.due("behind the size then", x.where(3, 72), 0);
        Kit.call("the lowest int", Kit.ARGUMENT, () -> x.where(3, Integer.MIN_VALUE));
        Kit.call("the highest int", Kit.ARGUMENT, () -> x.where(3, Integer.MAX_VALUE));
    }

    private static void promise24Gaps() {
        LedgerFiles x = Kit.mounted(128, 8, 16);
        for (int i = 0; i < 10; i++) {
            Kit.file(x, "/" + i);
        }
        for (int i = 1; i < 8; i++) {
            Kit.remove(x, "/" + i);
        }
        Kit.due("names", x.about(1, 4), 3);
        Kit.due("name 1 is in the next block", x.entry(1, 1), 10);
        Kit.due("name 2", x.entry(1, 2) * 1000 + x.letter(1, 2, 0), 11 * 1000 + '9');
        Kit.call("name 3", Kit.NO_ELEMENT, () -> x.entry(1, 3));
        Kit.call("the highest int", Kit.NO_ELEMENT, () -> x.entry(1, Integer.MAX_VALUE));
        Kit.call("letter of name 3", Kit.NO_ELEMENT, () -> x.letter(1, 3, 0));
        Kit.remove(x, "/0");
        Kit.remove(x, "/8");
        Kit.remove(x, "/9");
        Kit.call("name 0 of none", Kit.NO_ELEMENT, () -> x.entry(1, 0));
    }

    private static void promise14FlushesThenApplies() {
        // block 62 was a directory's and is in the log; the queue has other changes when a file takes it
        LedgerFiles x = withFile(128, 8, 16);
        Kit.file(x, "/d/x");
        x.flush();
        Kit.clear(x, "/d");
        x.flush();
        x.mark(1, 5);
        x.mark(3, 6);
        int turn = x.count(5);
        Kit.due("changes and entries", x.count(3) * 10 + (x.count(4) > 5 ? 1 : 0), 21);
        Kit.write(x, 3, 0, "bytes");
        Kit.due("the block", x.where(3, 0), 62);
        Kit.due("FLUSH, APPLY: its own change alone is in the queue", x.count(3) * 10 + x.count(4), 10);
        Kit.due("TURN", x.count(5) - turn, 2);
        Kit.due("marks are in their places", x.byteAt(45, 8) * 10 + x.byteAt(45, 64 + 8), 56);
        Kit.due("text", Kit.text(x, 3), "bytes");
    }

    private static void promise18TablesThatAreNotThere() {
        LedgerFiles x = withFile(200, 8, 16);
        x.fill(3, 0, 1, 0);
        x.truncate(3, 400000);
        Kit.due("holes with no tables do not count", x.punch(3, 0, 400000), 1);
        for (int i = 0; i < 5; i++) {
            x.fill(3, 1024 + 1600 * i, 1600, 1);
        }
        Kit.due("63 blocks of one table count once", x.punch(3, 0, 400000), 63);
        Kit.due("tables", x.about(3, 3), 1);
    }

    private static void promise18TablesOfBytesThatAreZero() {
        // it is the numbers in tables that count, whatever the bytes of the blocks are
        LedgerFiles x = withFile(300, 8, 16);
        for (int j = 0; j < 33; j++) {
            x.fill(3, 9216 + 8192 * j, 1, 0);
        }
        Kit.due("33 tables", x.punch(3, 0, 400000), -12);
        Kit.due("the last byte of the last block is not in it", x.punch(3, 0, 9216 + 8192 * 32 + 127), 32);
        Kit.due("one is left", x.about(3, 3), 33 + 1 + 1);
    }

    private static void promise16CommitIsLast() {
        // with G 1 the change is flushed: the bytes that were put ahead of it are settled with it
        LedgerFiles x = withFile(128, 8, 1);
        x.fill(3, 0, 300, 5);
        x.apply();
        x.truncate(3, 200);
        Kit.due("the buffer behind truncate()", x.count(6), 0);
        Kit.due("the cut end on the disk", x.byteAt(x.where(3, 1), 72), 0);
        x.fill(3, 200, 200, 5);
        Kit.due("the buffer behind fill()", x.count(6), 0);
        Kit.due("punch", x.punch(3, 100, 200), 1);
        Kit.due("the buffer behind punch()", x.count(6), 0);
        Kit.due("the 0s on the disk", x.byteAt(x.where(3, 0), 100) + x.byteAt(x.where(3, 2), 0), 0);
    }

    public static void main(String[] args) {
        promise14Write();
        promise14Wrong();
        promise14NoBlocks();
        promise14TablesFirst();
        promise14Directly();
        promise14Resting();
        promise14FlushesToTake();
        promise14LogHasIt();
        promise15Fill();
        promise16Truncate();
        promise16Tables();
        promise16ZerosBehindTheEnd();
        promise17Mark();
        promise18Punch();
        promise18Edges();
        promise18TooManyTables();
        promise19Hold();
        promise20Release();
        promise21Read();
        promise22About();
        promise23Where();
        promise24Entry();
        promise25Letter();
        promise14Edges();
        promise14BytesOfAHole();
        promise15Edges();
        promise15NoBlocks();
        promise16Edges();
        promise16LastTable();
        promise18WholeBlocks();
        promise18RisingAndBehind();
        promise18LastBlockOfTheSize();
        promise18BytesBehindTheSizeStay();
        promise19Edges();
        promise23Edges();
        promise24Gaps();
        promise14FlushesThenApplies();
        promise18TablesThatAreNotThere();
        promise18TablesOfBytesThatAreZero();
        promise16CommitIsLast();
        Kit.done();
    }
}
