/** Promises 41 to 46: what can be seen. */
public final class SeenTest {
    private static final int[][] NO_BYTES = {{-1, 0}, {128, 0}, {0, -1}, {0, 128}, {Integer.MIN_VALUE, 0},
        {Integer.MAX_VALUE, 0}, {0, Integer.MIN_VALUE}, {0, Integer.MAX_VALUE}};

    private static void promise41ByteAt() {
        LedgerFiles x = Kit.mounted(128, 8, 16);
        Kit.due("the head", x.byteAt(0, 0), 1414874188 & 255);
        Kit.due("a byte above 127", x.byteAt(43, 0), 255);
        Kit.due("the last byte", x.byteAt(127, 127), 0);
        int f = Kit.file(x, "/f");
        Kit.write(x, f, 0, "abc");
        Kit.due("what is in the buffer is not on the disk", x.byteAt(62, 0), 0);
        x.sync(f);
        Kit.due("then it is", x.byteAt(62, 0), (int) 'a');
        for (int[] none : NO_BYTES) {
            Kit.call("byteAt(" + none[0] + ", " + none[1] + ")", Kit.NO_ELEMENT, () -> x.byteAt(none[0], none[1]));
        }
        x.crash();
        Kit.due("without power", x.byteAt(62, 2), (int) 'c');
    }

    private static LedgerFiles writing() {
        LedgerFiles x = Kit.mounted(128, 4, 16);
        Kit.file(x, "/f");
        x.fill(2, 0, 640, 1);
        return x;
    }

    private static void promise42Waiting() {
        LedgerFiles x = writing();
        Kit.due("a value of the first block", x.waiting(62), 1);
        Kit.due("none of the others", x.waiting(63), 0);
        Kit.due("what is read is what waits", x.byteAt(62, 0), x.read(2, 0));
        Kit.due("in all", x.count(7), 1);
        x.fill(2, 0, 640, 2);
        x.fill(2, 0, 640, 2);
        Kit.due("the same one waits, too", x.waiting(62), 3);
        Kit.due("in all", x.count(7), 11);
        for (int block : new int[] {-1, 128, Integer.MIN_VALUE, Integer.MAX_VALUE}) {
            Kit.call("waiting(" + block + ")", Kit.NO_ELEMENT, () -> x.waiting(block));
        }
        x.crash();
        Kit.due("without power", x.waiting(62), 3);
        x.restart(0);
        Kit.due("behind restart()", x.waiting(62), 0);
    }

    private static void promise42AtMost256() {
        // five blocks in a buffer of four: each fill writes the one that was put longest ago
        LedgerFiles x = writing();
        int round = 0;
        while (round < 400 && x.count(7) < 256) {
            x.fill(2, 128 * (round % 5), 1, round);
            round++;
        }
        int[] before = new int[5];
        for (int i = 0; i < 5; i++) {
            before[i] = x.waiting(62 + i);
        }
        int writes = x.count(8);
        x.fill(2, 128 * (round % 5), 1, round);
        Kit.due("one more was written", x.count(8) - writes, 1);
        Kit.due("256 wait at most", x.count(7), 256);
        int sum = 0;
        for (int i = 0; i < 5; i++) {
            int due = before[i] + (i == (round + 1) % 5 ? 1 : 0) - (i == 0 ? 1 : 0);
            Kit.due("values of block " + i, x.waiting(62 + i), due);
            sum += x.waiting(62 + i);
        }
        Kit.due("of all blocks", sum, 256);
    }

    private static void promise43Seen() {
        LedgerFiles x = Kit.mounted(128, 8, 16);
        Kit.file(x, "/f");
        Kit.due("the queue's", x.seen(43, 7), 63);
        Kit.due("not on the disk", x.byteAt(43, 7), 31);
        x.flush();
        Kit.due("the log's", x.seen(43, 7), 63);
        Kit.write(x, 2, 0, "abc");
        Kit.due("the buffer's", x.seen(62, 1), (int) 'b');
        Kit.due("the disk's", x.seen(0, 0), 1414874188 & 255);
        x.begin();
        x.mark(1, 77);
        Kit.due("the group's", x.seen(45, 8), 77);
        x.undo();
        Kit.due("as before", x.seen(45, 8), 0);
        for (int[] none : NO_BYTES) {
            Kit.call("seen(" + none[0] + ", " + none[1] + ")", Kit.NO_ELEMENT, () -> x.seen(none[0], none[1]));
        }
        x.unmount();
        Kit.call("seen() when not mounted", Kit.STATE, () -> x.seen(-1, 0));
    }

    private static long hash(long h, String name, int kind, int size, int mark) {
        for (char c : name.toCharArray()) {
            h = h * 31 + c;
        }
        return ((h + kind) * 31 + size) * 31 + mark;
    }

    private static void promise44Tree() {
        LedgerFiles x = Kit.mounted(200, 8, 16);
        Kit.due("an empty tree", x.tree(true), 17 * 31 + 3);
        Kit.directory(x, "/d");
        int f = Kit.file(x, "/d/ff");
        Kit.file(x, "/g");
        Kit.write(x, f, 0, "a\u00fe");
        Kit.write(x, f, 300, "z");
        x.mark(f, -5);
        x.mark(1, 12345);
        long h = hash(17, "d", 2, 128, 0);
        h = hash(h, "ff", 1, 301, -5);
        long bytes = h;
        for (int i = 0; i < 301; i++) {
            bytes = bytes * 31 + (i == 0 ? 'a' : i == 1 ? 254 : i == 300 ? 'z' : 0);
        }
        h = hash(h * 31 + 3, "g", 1, 0, 0) * 31 + 3;
        bytes = hash(bytes * 31 + 3, "g", 1, 0, 0) * 31 + 3;
        Kit.due("without bytes", x.tree(false), h);
        Kit.due("with bytes", x.tree(true), bytes);
        x.crash();
        Kit.call("tree() without power", Kit.STATE, () -> x.tree(true));
    }

    private static void promise44Holes() {
        LedgerFiles x = Kit.mounted(200, 8, 16);
        int f = Kit.file(x, "/f");
        Kit.write(x, f, 20000, "far");
        x.truncate(f, 123457);
        long h = hash(17, "f", 1, 123457, 0);
        for (int i = 0; i < 123457; i++) {
            h = h * 31 + x.read(f, i);
        }
        Kit.due("a file of holes", x.tree(true), h * 31 + 3);
    }

    private static void promise45Check() {
        LedgerFiles x = Kit.mounted(128, 4, 3);
        Kit.due("empty", x.check(), 0);
        Kit.directory(x, "/d");
        Kit.file(x, "/d/f");
        x.fill(3, 0, 2000, 1);
        x.fill(3, 20000, 200, 1);
        Kit.link(x, "/d/f", "/g");
        Kit.due("with files", x.check(), 0);
        x.begin();
        Kit.clear(x, "/d");
        Kit.due("in a group", x.check(), 0);
        x.undo();
        Kit.due("behind undo()", x.check(), 0);
        x.hold(3);
        Kit.clear(x, "/d");
        Kit.remove(x, "/g");
        Kit.due("with a lost one", x.check(), 0);
        x.crash();
        Kit.call("check() without power", Kit.STATE, x::check);
        x.restart(3);
        x.mount();
        Kit.due("behind mount()", x.check(), 0);
    }

    private static void promise46Count() {
        LedgerFiles x = Kit.mounted(200, 8, 16);
        Kit.directory(x, "/d");
        int f = Kit.file(x, "/f");
        x.fill(f, 0, 1100, 1);
        x.truncate(f, 500);
        x.hold(f);
        Kit.remove(x, "/f");
        Kit.open(x, "/g", 4);
        Kit.tape(x, "123");
        x.power(77);
        // of the nine blocks and a table five and the table are free again; one more block came out of the full buffer
        int[] due = {134, 60, 6, 6, 0, 0, 8, 1, 22, 3, 77, 12, 3, 1, 1, 1, 0, 1};
        for (int what = 0; what < due.length; what++) {
            Kit.due("count(" + what + ")", x.count(what), due[what]);
        }
        x.power(-1);
        x.begin();
        x.release(f);
        Kit.due("free, in a group", x.count(0), 138);
        Kit.due("rest, in a group", x.count(2), 10);
        Kit.due("lost", x.count(15), 0);
        Kit.due("group", x.count(16), 1);
        for (int what : new int[] {-1, 18, Integer.MIN_VALUE, Integer.MAX_VALUE}) {
            Kit.call("count(" + what + ")", Kit.ARGUMENT, () -> x.count(what));
        }
        x.unmount();
        for (int what : new int[] {0, 1, 2, 3, 4, 5, 6, 7, 13, 15, 16, 17}) {
            Kit.due("count(" + what + ") when not mounted", x.count(what), 0);
        }
        Kit.due("the tape", x.count(12), 3);
        Kit.due("power", x.count(14), 1);
        Kit.call("count(18) when not mounted", Kit.ARGUMENT, () -> x.count(18));
    }

    private static void promise41Edges() {
        LedgerFiles x = new LedgerFiles(1024, 8, 16);
        Kit.due("the last byte of the last block", x.byteAt(1023, 127), 0);
        Kit.call("a block behind it", Kit.NO_ELEMENT, () -> x.byteAt(1024, 127));
        Kit.call("a byte behind it", Kit.NO_ELEMENT, () -> x.byteAt(1023, 128));
        Kit.due("waiting of the last", x.waiting(1023), 0);
        Kit.call("waiting behind it", Kit.NO_ELEMENT, () -> x.waiting(1024));
        x.format();
        x.mount();
        Kit.due("seen of the last", x.seen(1023, 127), 0);
        Kit.call("seen behind it", Kit.NO_ELEMENT, () -> x.seen(1024, 0));
        Kit.call("seen of byte 128", Kit.NO_ELEMENT, () -> x.seen(1023, 128));
        x.crash();
        Kit.call("byteAt behind it without power", Kit.NO_ELEMENT, () -> x.byteAt(1024, 0));
        Kit.call("waiting behind it without power", Kit.NO_ELEMENT, () -> x.waiting(-1));
    }

    private static void promise44Orders() {
        LedgerFiles x = Kit.mounted(200, 8, 16);
        Kit.file(x, "/a");
        Kit.directory(x, "/empty");
        Kit.file(x, "/b");
        Kit.remove(x, "/a");
        Kit.directory(x, "/c");
        Kit.directory(x, "/c/d");
        Kit.file(x, "/c/d/e");
        x.mark(2, Integer.MIN_VALUE);
        // the slot of /a is /c's: by slots it comes first
        long h = hash(17, "c", 2, 128, Integer.MIN_VALUE);
        h = hash(h, "d", 2, 128, 0);
        h = hash(h, "e", 1, 0, 0) * 31 + 3;
        h = hash(h * 31 + 3, "empty", 2, 0, 0);
        h = hash(h * 31 + 3, "b", 1, 0, 0) * 31 + 3;
        Kit.due("inode 2 is used again", Kit.find(x, "/c"), 2);
        Kit.due("tree", x.tree(true), h);
        x.begin();
        Kit.remove(x, "/b");
        Kit.due("the group's is seen", x.tree(true) == h, false);
        x.undo();
        Kit.due("as before", x.tree(true), h);
        x.hold(Kit.find(x, "/b"));
        Kit.remove(x, "/b");
        long without = x.tree(true);
        x.mark(4, 5);
        Kit.due("what is lost is not in it", x.tree(true), without);
    }

    private static void promise46Edges() {
        LedgerFiles x = Kit.mounted(128, 4, 1);
        Kit.due("M 4: fifteen of the nineteen went out of the full buffer", x.count(11), 15);
        Kit.due("writes and syncs of format()", x.count(8) * 100 + x.count(9), 2103);
        int f = Kit.file(x, "/f");
        x.begin();
        x.fill(f, 0, 200, 1);
        Kit.due("free, of a group", x.count(0), 64);
        x.truncate(f, 0);
        Kit.due("free and resting, of a group", x.count(0) * 10 + x.count(2), 662);
        x.undo();
        Kit.due("behind it", x.count(0) * 10 + x.count(2), 660);
        for (int h = 0; h < 32; h++) {
            Kit.open(x, "/f", 0);
        }
        Kit.due("handles", x.count(17), 32);
        x.crash();
        int[] due = {0, 0, 0, 0, 0, 0, 0};
        for (int what = 0; what < due.length; what++) {
            Kit.due("count(" + what + ") without power", x.count(what), due[what]);
        }
        Kit.due("the last three", x.count(15) + x.count(16) + x.count(17), 0);
        Kit.call("count(18) without power", Kit.ARGUMENT, () -> x.count(18));
        Kit.call("count(-1) without power", Kit.ARGUMENT, () -> x.count(-1));
    }

    public static void main(String[] args) {
        promise41ByteAt();
        promise42Waiting();
        promise42AtMost256();
        promise43Seen();
        promise44Tree();
        promise44Holes();
        promise45Check();
        promise46Count();
        promise41Edges();
        promise44Orders();
        promise46Edges();
        Kit.done();
    }
}
