/** Promises 7 to 13: make, remove, rename, link, clear, copy, find. */
public final class NamesTest {
    private static final String[] NO_PATHS = {"", "a", "a/b", "//", "/a/", "/a//b", "/.", "/..", "/a/.", "/../a",
        "/fourteen-chars", "/a b", "/a\u0001", "/\u00e9", "/a*", "/a\0", "/1/2/3/4/5/6/7/8/9/a/b/c/d/e/f/g/h"};

    private static void promise7Make() {
        LedgerFiles x = Kit.mounted(128, 8, 4);
        Kit.due("a directory", Kit.directory(x, "/d"), 2);
        Kit.due("a file in it", Kit.file(x, "/d/f"), 3);
        Kit.due("a name of 13", Kit.file(x, "/Az0._-thirtee"), 4);
        Kit.due("a name of points", Kit.file(x, "/..."), 5);
        Kit.due("the first and last letters", Kit.file(x, "/azAZ09._-"), 6);
        for (char c : new char[] {'`', '{', '@', '[', '/', ':', ',', '^', ' ', '\u007f', '\u00e1'}) {
            Kit.due("a name with " + c, Kit.file(x, "/a" + c), -6);
        }
        int[] due = {1, 0, 0, 0, 0, 1, 0};
        for (int what = 0; what < 7; what++) {
            Kit.due("about(3, " + what + ")", x.about(3, what), due[what]);
        }
        Kit.due("kind of the directory", x.about(2, 0), 2);
        Kit.due("size of the directory", x.about(2, 1), 128);
        Kit.due("LINKS of the directory", x.about(2, 5), 1);
        Kit.due("slot on the block", Kit.seen(x, x.where(2, 0), 0, 8), 3 | 1 << 16 | (long) 'f' << 24);
        Kit.due("root", Kit.directory(x, "/"), -2);
        Kit.due("a name that is there", Kit.file(x, "/d"), -2);
        Kit.due("a file that is there", Kit.directory(x, "/d/f"), -2);
        Kit.due("below nothing", Kit.file(x, "/no/f"), -1);
        Kit.due("below a file", Kit.file(x, "/d/f/g"), -3);
        Kit.due("below a file, two names", Kit.file(x, "/d/f/g/h"), -3);
        Kit.due("below nothing below a directory", Kit.file(x, "/d/no/g"), -1);
        for (String path : NO_PATHS) {
            Kit.due("make of " + path, Kit.file(x, path), -6);
        }
        Kit.due("the tape behind that", x.count(12), 0);
        Kit.tape(x, "/q");
        x.crash();
        Kit.call("make() without power", Kit.STATE, () -> x.make(true));
        Kit.due("the tape behind that, too", x.count(12), 0);
    }

    private static void promise7Slots() {
        LedgerFiles x = Kit.mounted(128, 8, 4);
        for (int i = 0; i < 9; i++) {
            Kit.file(x, "/f" + i);
        }
        Kit.due("size of nine names", x.about(1, 1), 256);
        Kit.due("name 8", x.letter(1, 8, 1), (int) '8');
        Kit.remove(x, "/f3");
        Kit.remove(x, "/f6");
        Kit.file(x, "/new");
        Kit.due("the first free slot", x.letter(1, 3, 0), (int) 'n');
        Kit.due("its inode is the lowest", x.entry(1, 3), 5);
        Kit.due("size stays", x.about(1, 1), 256);
    }

    private static void promise7DeepPath() {
        LedgerFiles x = Kit.mounted(128, 8, 1);
        StringBuilder path = new StringBuilder();
        for (int i = 0; i < 16; i++) {
            path.append("/d");
            Kit.due("depth " + (i + 1), Kit.directory(x, path.toString()), i + 2);
        }
        Kit.due("depth 17", Kit.directory(x, path + "/d"), -6);
    }

    private static void promise7NoInodes() {
        LedgerFiles x = Kit.mounted(128, 8, 16);
        for (int i = 2; i <= 64; i++) {
            Kit.due("inode " + i, Kit.file(x, "/f" + i), i);
        }
        Kit.due("no inode is free", Kit.file(x, "/more"), -8);
        Kit.due("free inodes", x.count(1), 0);
        Kit.remove(x, "/f40");
        Kit.due("its bit", Kit.seen(x, 44, 0, 8), ~(1L << 39));
        Kit.due("the lowest free one", Kit.file(x, "/more"), 40);
        Kit.due("all bits", Kit.seen(x, 44, 0, 8), -1L);
        Kit.due("no others", Kit.seen(x, 44, 8, 8), 0);
        x.hold(64);
        Kit.remove(x, "/f64");
        Kit.due("the last one is lost", x.count(15), 1);
        x.release(64);
        Kit.due("the last one is free", x.count(1), 1);
        Kit.due("check", x.check(), 0);
    }

    /** A disk of 128 blocks whose 67 are used but for some. */
    private static LedgerFiles almostFull(int left) {
        LedgerFiles x = Kit.mounted(128, 8, 1);
        Kit.directory(x, "/d");
        int big = Kit.file(x, "/big");
        Kit.fillUp(x, big, left);
        return x;
    }

    private static void promise7NoBlocks() {
        LedgerFiles x = almostFull(0);
        Kit.due("blocks free", x.count(0), 0);
        Kit.due("a name that wants no block", Kit.file(x, "/f"), 4);
        Kit.due("a name that wants one", Kit.file(x, "/d/f"), -7);
        Kit.due("no inode was taken", x.count(1), 60);
        LedgerFiles y = almostFull(1);
        Kit.due("a name that wants the last one", Kit.file(y, "/d/f"), 4);
        Kit.due("blocks free then", y.count(0), 0);
    }

    private static void promise8Remove() {
        LedgerFiles x = Kit.mounted(128, 8, 4);
        Kit.directory(x, "/d");
        int f = Kit.file(x, "/d/f");
        x.fill(f, 0, 1500, 3);
        Kit.link(x, "/d/f", "/g");
        for (String path : NO_PATHS) {
            Kit.due("remove of " + path, Kit.remove(x, path), -6);
        }
        Kit.due("root", Kit.remove(x, "/"), -9);
        Kit.due("nothing", Kit.remove(x, "/no"), -1);
        Kit.due("below a file", Kit.remove(x, "/g/h"), -3);
        Kit.due("a directory with names", Kit.remove(x, "/d"), -5);
        Kit.due("one of two names", Kit.remove(x, "/d/f"), 0);
        Kit.due("LINKS", x.about(f, 5), 1);
        Kit.due("its slot", Kit.notZero(x, x.where(2, 0)), 0);
        int free = x.count(0);
        Kit.due("the last name", Kit.remove(x, "/g"), 0);
        Kit.due("its inode", x.about(f, 0), -11);
        Kit.due("its bytes", Kit.seen(x, 45, 64, 8), 0);
        Kit.due("blocks and table are free", x.count(0) - free, 13);
        Kit.due("the directory without names", Kit.remove(x, "/d"), 0);
        Kit.due("the directory's block is free", x.count(0) - free, 14);
        Kit.due("names", x.about(1, 4), 0);
        Kit.due("size of the root", x.about(1, 1), 128);
        x.unmount();
        Kit.call("remove() when not mounted", Kit.STATE, x::remove);
    }

    private static void promise8Held() {
        LedgerFiles x = Kit.mounted(128, 8, 4);
        int f = Kit.file(x, "/f");
        Kit.write(x, f, 0, "abc");
        x.hold(f);
        int d = Kit.directory(x, "/d");
        x.hold(d);
        Kit.due("a held file", Kit.remove(x, "/f"), 0);
        Kit.due("a held directory", Kit.remove(x, "/d"), 0);
        Kit.due("LINKS", x.about(f, 5), 0);
        Kit.due("lost", x.count(15), 2);
        Kit.due("bytes", Kit.text(x, f), "abc");
        Kit.due("kind", x.about(d, 0), 2);
        Kit.due("check", x.check(), 0);
    }

    private static void promise9Rename() {
        LedgerFiles x = Kit.mounted(128, 8, 4);
        int d = Kit.directory(x, "/d");
        int e = Kit.directory(x, "/e");
        int f = Kit.file(x, "/d/f");
        int g = Kit.file(x, "/g");
        Kit.due("to another directory", Kit.rename(x, "/d/f", "/e/ff"), 0);
        Kit.due("find", Kit.find(x, "/e/ff"), f);
        Kit.due("it was", Kit.find(x, "/d/f"), -1);
        Kit.due("in its directory", Kit.rename(x, "/g", "/h"), 0);
        Kit.due("its slot", x.letter(1, 2, 0), (int) 'h');
        Kit.due("a directory", Kit.rename(x, "/e", "/d/e"), 0);
        Kit.due("find below it", Kit.find(x, "/d/e/ff"), f);
        Kit.due("the first free slot is its old one", Kit.rename(x, "/h", "/i"), 0);
        Kit.due("so it came to slot 1", x.entry(1, 1), g);
        Kit.due("the same", Kit.rename(x, "/i", "/i"), 0);
        Kit.link(x, "/i", "/j");
        Kit.due("two names of one file", Kit.rename(x, "/i", "/j"), 0);
        Kit.due("both stay", Kit.find(x, "/i") == g && Kit.find(x, "/j") == g, true);
        Kit.due("LINKS stay", x.about(g, 5), 2);
        Kit.due("numbers", d == 2 && e == 3, true);
    }

    private static void promise9Wrong() {
        LedgerFiles x = Kit.mounted(128, 8, 4);
        Kit.directory(x, "/d");
        Kit.directory(x, "/d/e");
        Kit.file(x, "/f");
        for (String path : NO_PATHS) {
            if (!path.endsWith("\0")) {
                Kit.due("rename of " + path, Kit.rename(x, path, "/g"), -6);
            }
            Kit.due("rename to " + path, Kit.rename(x, "/f", path), -6);
        }
        Kit.tape(x, "/f");
        Kit.due("no byte 0", x.rename(), -6);
        Kit.tape(x, "/f\0/g\0");
        Kit.due("two bytes 0", x.rename(), -6);
        Kit.due("the first is not there", Kit.rename(x, "/no", "/"), -1);
        Kit.due("the first is below a file", Kit.rename(x, "/f/g", "/"), -3);
        Kit.due("the first is the root", Kit.rename(x, "/", "/f"), -9);
        Kit.due("the second is the root", Kit.rename(x, "/f", "/"), -9);
        Kit.due("into itself", Kit.rename(x, "/d", "/d/x"), -9);
        Kit.due("far into itself", Kit.rename(x, "/d", "/d/no/no"), -9);
        Kit.due("a file into itself", Kit.rename(x, "/f", "/f/x"), -9);
        Kit.due("a name that only begins alike", Kit.rename(x, "/d", "/dd"), 0);
        Kit.due("and back", Kit.rename(x, "/dd", "/d"), 0);
        Kit.due("the second's directory is not there", Kit.rename(x, "/f", "/no/f"), -1);
        Kit.due("the second's directory is a file", Kit.rename(x, "/d", "/f/d"), -3);
        Kit.due("a directory in place of a file", Kit.rename(x, "/d", "/f"), -3);
        Kit.due("a file in place of a directory", Kit.rename(x, "/f", "/d"), -4);
        Kit.due("a directory in place of one with names", Kit.rename(x, "/d/e", "/d"), -5);
        Kit.due("names", x.about(1, 4), 2);
        x.unmount();
        Kit.call("rename() when not mounted", Kit.STATE, x::rename);
    }

    private static void promise9InPlace() {
        LedgerFiles x = Kit.mounted(128, 8, 4);
        int f = Kit.file(x, "/f");
        int g = Kit.file(x, "/g");
        x.fill(g, 0, 500, 1);
        int free = x.count(0);
        Kit.due("a file in place of a file", Kit.rename(x, "/f", "/g"), 0);
        Kit.due("find", Kit.find(x, "/g"), f);
        Kit.due("the other went", x.about(g, 0), -11);
        Kit.due("its blocks are free", x.count(0) - free, 4);
        Kit.due("the slot is the second's", Kit.seen(x, x.where(1, 0), 16, 2), f);
        Kit.due("the first's slot is free", Kit.seen(x, x.where(1, 0), 0, 8), 0);
        int d = Kit.directory(x, "/d");
        int e = Kit.directory(x, "/e");
        x.hold(e);
        Kit.due("a directory in place of a held one", Kit.rename(x, "/d", "/e"), 0);
        Kit.due("find", Kit.find(x, "/e"), d);
        Kit.due("that one is lost", x.about(e, 5), 0);
        Kit.due("check", x.check(), 0);
    }

    private static void promise9NoBlocks() {
        LedgerFiles x = almostFull(0);
        Kit.file(x, "/f");
        Kit.due("into a directory that wants a block", Kit.rename(x, "/f", "/d/f"), -7);
        Kit.due("in its directory", Kit.rename(x, "/f", "/g"), 0);
        LedgerFiles y = almostFull(1);
        Kit.file(y, "/f");
        Kit.due("into a directory that wants the last block", Kit.rename(y, "/f", "/d/f"), 0);
        for (int i = 0; i < 5; i++) {
            Kit.file(x, "/m" + i);
        }
        Kit.due("a full directory, of its own", Kit.rename(x, "/m4", "/n"), 0);
    }

    private static void promise10Link() {
        LedgerFiles x = Kit.mounted(300, 8, 16);
        int f = Kit.file(x, "/f");
        Kit.directory(x, "/d");
        Kit.due("link()", Kit.link(x, "/f", "/d/g"), 2);
        Kit.due("find", Kit.find(x, "/d/g"), f);
        Kit.due("LINKS", x.about(f, 5), 2);
        for (String path : NO_PATHS) {
            Kit.due("link to " + path, Kit.link(x, "/f", path), -6);
        }
        Kit.tape(x, "/f");
        Kit.due("no byte 0", x.link(), -6);
        Kit.due("nothing", Kit.link(x, "/no", "/"), -1);
        Kit.due("below a file", Kit.link(x, "/f/g", "/"), -3);
        Kit.due("a directory", Kit.link(x, "/d", "/"), -4);
        Kit.due("the root", Kit.link(x, "/", "/x"), -4);
        Kit.due("to the root", Kit.link(x, "/f", "/"), -9);
        Kit.due("below nothing", Kit.link(x, "/f", "/no/x"), -1);
        Kit.due("to below a file", Kit.link(x, "/f", "/f/x"), -3);
        Kit.due("to what is there", Kit.link(x, "/f", "/d/g"), -2);
        for (int i = 3; i <= 255; i++) {
            Kit.due("link " + i, Kit.link(x, "/f", "/d/" + i), i);
        }
        Kit.due("it has 255", Kit.link(x, "/f", "/d/256"), -9);
        Kit.due("it has 255, but that is there", Kit.link(x, "/f", "/d/255"), -2);
        Kit.due("size of the directory", x.about(3, 1), 32 * 128);
        Kit.due("its blocks and its table", x.about(3, 3), 33);
        Kit.due("check", x.check(), 0);
        x.crash();
        Kit.call("link() without power", Kit.STATE, x::link);
    }

    private static void promise10NoBlocks() {
        LedgerFiles x = almostFull(0);
        Kit.due("a name that wants a block", Kit.link(x, "/big", "/d/big"), -7);
        Kit.due("LINKS", x.about(3, 5), 1);
        Kit.due("a name that wants none", Kit.link(x, "/big", "/big2"), 2);
    }

    private static void promise11Clear() {
        LedgerFiles x = Kit.mounted(200, 8, 4);
        int free = x.count(0);
        Kit.directory(x, "/d");
        Kit.directory(x, "/d/e");
        Kit.directory(x, "/d/e/g");
        int f = Kit.file(x, "/d/e/f");
        x.fill(f, 0, 1000, 1);
        Kit.link(x, "/d/e/f", "/d/f2");
        Kit.link(x, "/d/e/f", "/out");
        Kit.file(x, "/d/h");
        x.flush();
        Kit.due("clear()", Kit.clear(x, "/d"), 6);
        Kit.due("one change", x.count(3), 1);
        Kit.due("what has a name outside stays", x.about(f, 5), 1);
        Kit.due("names", x.about(1, 4), 1);
        Kit.due("check", x.check(), 0);
        Kit.due("a file", Kit.clear(x, "/out"), 1);
        Kit.due("all is free but the root's block", x.count(0), free - 1);
        Kit.due("inodes", x.count(1), 63);
        for (String path : NO_PATHS) {
            Kit.due("clear of " + path, Kit.clear(x, path), -6);
        }
        Kit.due("root", Kit.clear(x, "/"), -9);
        Kit.due("nothing", Kit.clear(x, "/no"), -1);
        Kit.file(x, "/f");
        Kit.due("below a file", Kit.clear(x, "/f/g"), -3);
        x.unmount();
        Kit.call("clear() when not mounted", Kit.STATE, x::clear);
    }

    /** A held directory, whose blocks stay when it is cleared. */
    private static LedgerFiles wide(int names) {
        LedgerFiles x = Kit.mounted(300, 8, 16);
        int d = Kit.directory(x, "/d");
        for (int n = 0; n < names; n++) {
            if (n % 250 == 0) {
                Kit.file(x, "/d/n" + n);
            } else {
                Kit.link(x, "/d/n" + n / 250 * 250, "/d/n" + n);
            }
        }
        x.hold(d);
        x.flush();
        return x;
    }

    private static void promise11TooMany() {
        // with 38 blocks of the directory there are 44, 45 and the root's block more: 41
        LedgerFiles x = wide(38 * 8);
        long tree = x.tree(true);
        int free = x.count(0);
        Kit.due("a change of 41 blocks", Kit.clear(x, "/d"), -12);
        Kit.due("nothing has changed", x.tree(true), tree);
        Kit.due("blocks", x.count(0), free);
        Kit.due("rest", x.count(2), 0);
        Kit.due("queue", x.count(3), 0);
        Kit.due("check", x.check(), 0);
        x.begin();
        Kit.due("in a group it is not asked", Kit.clear(x, "/d"), 38 * 8 + 1);
        Kit.due("but at the end", x.end(), -12);
        Kit.due("nothing has changed then, too", x.tree(true), tree);
        x.release(2);
        Kit.due("not held its blocks are free", Kit.clear(x, "/d"), 38 * 8 + 1);
        LedgerFiles y = wide(37 * 8);
        Kit.due("a change of 40 blocks", Kit.clear(y, "/d"), 37 * 8 + 1);
        Kit.due("in the queue", y.count(3), 1);
        Kit.due("flush", y.flush(), 1);
        Kit.due("entries", y.count(4), 40);
    }

    private static void promise11Deep() {
        LedgerFiles x = Kit.mounted(300, 8, 16);
        Kit.directory(x, "/top");
        for (int i = 2; i <= 63; i++) {
            Kit.directory(x, "/n");
            Kit.rename(x, "/top", "/n/t");
            Kit.rename(x, "/n", "/top");
        }
        Kit.due("63 directories, each in the next", x.check(), 0);
        Kit.due("clear() of them", Kit.clear(x, "/top"), 63);
        Kit.due("inodes", x.count(1), 63);
        Kit.due("blocks", x.count(0), 300 - 62);
    }

    private static void promise12Copy() {
        LedgerFiles x = Kit.mounted(300, 8, 4);
        int f = Kit.file(x, "/f");
        Kit.directory(x, "/d");
        Kit.write(x, f, 0, "first");
        Kit.write(x, f, 9216 + 64 * 128 + 5, "far");
        Kit.write(x, f, 2000, "middle");
        x.mark(f, -7);
        int c = Kit.copy(x, "/f", "/d/c");
        Kit.due("copy()", c, 4);
        for (int what = 0; what < 4; what++) {
            Kit.due("about(c, " + what + ")", x.about(c, what), x.about(f, what));
        }
        Kit.due("blocks and tables", x.about(c, 3), 3 + 3);
        Kit.due("LINKS", x.about(c, 5), 1);
        Kit.due("held", x.about(c, 6), 0);
        for (int at : new int[] {0, 4, 5, 1999, 2000, 2005, 2006, 9216, 17413, 17415, 17416}) {
            Kit.due("byte " + at, x.read(c, at), x.read(f, at));
        }
        Kit.due("holes stay", x.where(c, 1), 0);
        Kit.due("its blocks are its own", x.where(c, 0) == x.where(f, 0), false);
        Kit.due("its blocks come behind its name's", x.where(c, 0), x.where(3, 0) + 1);
        x.punch(f, 1920, 128);
        Kit.due("the first one's table stays", x.about(f, 3), 5);
        Kit.due("the copy's does not come", x.about(Kit.copy(x, "/f", "/c2"), 3), 4);
        Kit.due("check", x.check(), 0);
        x.crash();
        Kit.call("copy() without power", Kit.STATE, x::copy);
    }

    private static void promise12Wrong() {
        LedgerFiles x = Kit.mounted(300, 8, 4);
        Kit.file(x, "/f");
        Kit.directory(x, "/d");
        for (String path : NO_PATHS) {
            Kit.due("copy to " + path, Kit.copy(x, "/f", path), -6);
        }
        Kit.tape(x, "/f");
        Kit.due("no byte 0", x.copy(), -6);
        Kit.due("nothing", Kit.copy(x, "/no", "/"), -1);
        Kit.due("below a file", Kit.copy(x, "/f/g", "/"), -3);
        Kit.due("a directory", Kit.copy(x, "/d", "/"), -4);
        Kit.due("to the root", Kit.copy(x, "/f", "/"), -9);
        Kit.due("to below nothing", Kit.copy(x, "/f", "/no/c"), -1);
        Kit.due("to below a file", Kit.copy(x, "/f", "/f/c"), -3);
        Kit.due("to itself", Kit.copy(x, "/f", "/f"), -2);
        Kit.due("to what is there", Kit.copy(x, "/f", "/d"), -2);
        for (int i = 4; i <= 64; i++) {
            Kit.file(x, "/" + i);
        }
        Kit.due("no inode is free", Kit.copy(x, "/f", "/c"), -8);
        Kit.due("there already, ahead of -8", Kit.copy(x, "/f", "/d"), -2);
    }

    private static void promise12TooManyTables() {
        LedgerFiles x = Kit.mounted(300, 8, 4);
        int f = Kit.file(x, "/f");
        for (int j = 0; j < 31; j++) {
            x.fill(f, 9216 + 8192 * j, 1, 1);
        }
        Kit.due("a copy with 32 tables", Kit.copy(x, "/f", "/c"), 3);
        x.fill(f, 1024, 1, 1);
        Kit.due("a copy with 33 tables", Kit.copy(x, "/f", "/c2"), -12);
        x.begin();
        Kit.due("in a group, too", Kit.copy(x, "/f", "/c2"), -12);
        x.end();
        x.punch(f, 1024, 128);
        Kit.due("its table stays, but the copy wants 32", Kit.copy(x, "/f", "/c2"), 4);
        Kit.due("check", x.check(), 0);
    }

    private static void promise12NoBlocks() {
        LedgerFiles x = Kit.mounted(128, 8, 1);
        Kit.directory(x, "/d");
        int f = Kit.file(x, "/f");
        x.fill(f, 0, 1100, 1);
        int big = Kit.file(x, "/big");
        Kit.fillUp(x, big, 11);
        Kit.due("nine blocks, a table, a block for the name", Kit.copy(x, "/f", "/d/c"), 5);
        Kit.due("no block is free", x.count(0), 0);
        LedgerFiles y = Kit.mounted(128, 8, 1);
        Kit.directory(y, "/d");
        int g = Kit.file(y, "/f");
        y.fill(g, 0, 1100, 1);
        int large = Kit.file(y, "/big");
        Kit.fillUp(y, large, 10);
        Kit.due("one block too few", Kit.copy(y, "/f", "/d/c"), -7);
        Kit.due("nothing was taken", y.count(0) * 100 + y.count(1), 1060);
        Kit.due("enough without a block for the name", Kit.copy(y, "/f", "/c"), 5);
    }

    private static void promise12ZerosBehindSize() {
        // undo() leaves bytes behind the size in the first one's block; the copy has 0s there
        LedgerFiles x = Kit.mounted(128, 8, 4);
        int f = Kit.file(x, "/f");
        Kit.write(x, f, 0, "ab");
        x.begin();
        Kit.write(x, f, 2, "cdef");
        x.undo();
        Kit.due("size", x.about(f, 1), 2);
        int c = Kit.copy(x, "/f", "/c");
        x.truncate(f, 6);
        x.truncate(c, 6);
        Kit.due("what stands there is seen", Kit.text(x, f), "abcdef");
        Kit.due("the copy's are 0", Kit.text(x, c), "ab\0\0\0\0");
    }

    private static void promise13Find() {
        LedgerFiles x = Kit.mounted(128, 8, 4);
        int d = Kit.directory(x, "/d");
        int f = Kit.file(x, "/d/f");
        Kit.due("root", Kit.find(x, "/"), 1);
        Kit.due("a directory", Kit.find(x, "/d"), d);
        Kit.due("a file", Kit.find(x, "/d/f"), f);
        Kit.due("nothing", Kit.find(x, "/f"), -1);
        Kit.due("below nothing", Kit.find(x, "/f/d"), -1);
        Kit.due("another case", Kit.find(x, "/D"), -1);
        Kit.due("only the first letter", Kit.find(x, "/d/f2"), -1);
        Kit.due("below a file", Kit.find(x, "/d/f/g"), -3);
        for (String path : NO_PATHS) {
            Kit.due("find of " + path, Kit.find(x, path), -6);
        }
        Kit.tape(x, "/d");
        x.find();
        Kit.due("the tape is used up", x.count(12), 0);
        Kit.tape(x, "/d");
        x.crash();
        Kit.call("find() without power", Kit.STATE, x::find);
        Kit.due("the tape is used up then, too", x.count(12), 0);
    }

    private static void promise7InodesAheadOfBlocks() {
        LedgerFiles x = Kit.mounted(128, 8, 1);
        Kit.directory(x, "/d");
        for (int i = 3; i <= 64; i++) {
            Kit.file(x, "/f" + i);
        }
        Kit.fillUp(x, 3, 0);
        Kit.due("there already, ahead of -8", Kit.file(x, "/f9"), -2);
        Kit.due("below nothing, ahead of -8", Kit.file(x, "/no/x"), -1);
        Kit.due("no inode, ahead of no block", Kit.file(x, "/d/x"), -8);
        Kit.due("of open(), too", Kit.open(x, "/d/x", 4), -8);
        Kit.due("of copy(), too", Kit.copy(x, "/f9", "/d/x"), -8);
        Kit.remove(x, "/f64");
        Kit.due("an inode, but no block", Kit.file(x, "/d/x"), -7);
        Kit.due("of open(), too", Kit.open(x, "/d/x", 4), -7);
        Kit.due("of copy(), too", Kit.copy(x, "/f9", "/d/x"), -7);
        Kit.due("an inode, and a slot", Kit.file(x, "/x"), 64);
    }

    /** A directory of 64 names in its eight blocks, and a disk with so many blocks free. */
    private static LedgerFiles eightBlocks(int left) {
        LedgerFiles x = Kit.mounted(128, 8, 16);
        Kit.directory(x, "/d");
        Kit.file(x, "/d/0");
        for (int i = 1; i < 64; i++) {
            Kit.link(x, "/d/0", "/d/" + i);
        }
        Kit.due("size of 64 names", x.about(2, 1), 1024);
        int big = Kit.file(x, "/big");
        Kit.fillUp(x, big, left);
        return x;
    }

    private static void promise7NinthBlock() {
        LedgerFiles x = eightBlocks(1);
        Kit.due("a ninth block wants a table, too", Kit.file(x, "/d/new"), -7);
        Kit.due("of link()", Kit.link(x, "/d/0", "/d/new"), -7);
        Kit.due("of rename()", Kit.rename(x, "/big", "/d/new"), -7);
        Kit.due("of copy()", Kit.copy(x, "/big", "/d/new"), -7);
        Kit.due("of open()", Kit.open(x, "/d/new", 4), -7);
        Kit.due("a slot of its own is free ahead of the name", Kit.rename(x, "/d/5", "/d/new"), 0);
        Kit.due("names, size", x.about(2, 4) * 10000 + x.about(2, 1), 641024);
        LedgerFiles y = eightBlocks(2);
        Kit.due("both are there", Kit.file(y, "/d/new"), 5);
        Kit.due("size", y.about(2, 1), 1152);
        Kit.due("a table more", y.about(2, 3), 10);
        Kit.due("the table was taken first", Kit.seen(y, 45, 32 + 28, 2) < y.where(2, 8), true);
        Kit.due("the name has the first slot of the block", y.letter(2, 64, 0), (int) 'n');
        Kit.due("none is free", y.count(0), 0);
        Kit.due("the next name wants no block", Kit.file(y, "/d/next"), 6);
        Kit.due("check", y.check(), 0);
    }

    private static void promise8LastOfTwo() {
        LedgerFiles x = Kit.mounted(128, 8, 16);
        int f = Kit.file(x, "/f");
        Kit.link(x, "/f", "/g");
        x.fill(f, 0, 200, 1);
        int free = x.count(0);
        Kit.due("a name of two", Kit.remove(x, "/f"), 0);
        Kit.due("its blocks stay", x.count(0), free);
        int h = Kit.open(x, "/g", 0);
        Kit.due("the last name of an open file", Kit.remove(x, "/g"), 0);
        Kit.due("it is lost", x.count(15), 1);
        Kit.due("its blocks stay", x.count(0), free);
        x.close(h);
        Kit.due("then they are free", x.count(0), free + 2);
    }

    private static void promise9FullDirectory() {
        LedgerFiles x = Kit.mounted(128, 8, 16);
        Kit.directory(x, "/d");
        for (int i = 0; i < 8; i++) {
            Kit.file(x, "/d/" + i);
        }
        Kit.file(x, "/f");
        Kit.due("in a full directory of its own", Kit.rename(x, "/d/3", "/d/x"), 0);
        Kit.due("size", x.about(2, 1), 128);
        Kit.due("the slot was its own", x.letter(2, 3, 0), (int) 'x');
        Kit.due("into a full directory", Kit.rename(x, "/f", "/d/f"), 0);
        Kit.due("one block more", x.about(2, 1), 256);
        Kit.due("its first slot", x.letter(2, 8, 0), (int) 'f');
        Kit.due("LINKS", x.about(11, 5), 1);
    }

    private static void promise9SameInode() {
        LedgerFiles x = Kit.mounted(128, 8, 16);
        Kit.file(x, "/f");
        Kit.directory(x, "/d");
        Kit.link(x, "/f", "/d/g");
        int changes = x.count(3);
        Kit.due("one name in place of the other", Kit.rename(x, "/f", "/d/g"), 0);
        Kit.due("both stay", Kit.find(x, "/f") * 10 + Kit.find(x, "/d/g"), 22);
        Kit.due("a directory's own name", Kit.rename(x, "/d", "/d"), 0);
        Kit.due("no change", x.count(3), changes);
        Kit.due("names in the root", x.about(1, 4), 2);
    }

    private static void promise9HeldGoesLost() {
        LedgerFiles x = Kit.mounted(128, 8, 16);
        int f = Kit.file(x, "/f");
        int g = Kit.file(x, "/g");
        Kit.write(x, g, 0, "lost");
        int h = Kit.open(x, "/g", 0);
        Kit.due("a file in place of an open one", Kit.rename(x, "/f", "/g"), 0);
        Kit.due("it is lost", x.count(15), 1);
        Kit.due("and can be read", x.get(h), (int) 'l');
        Kit.due("find", Kit.find(x, "/g"), f);
        Kit.link(x, "/g", "/two");
        Kit.file(x, "/h");
        Kit.due("in place of one of two names", Kit.rename(x, "/h", "/two"), 0);
        Kit.due("LINKS 1 less", x.about(f, 5), 1);
        Kit.due("check", x.check(), 0);
    }

    private static void promise9FreedInGroup() {
        LedgerFiles x = almostFull(1);
        Kit.file(x, "/f");
        x.begin();
        x.fill(4, 0, 1, 1);
        x.truncate(4, 0);
        Kit.due("one block is free, of the group", x.count(0) * 10 + x.count(2), 11);
        Kit.due("rename()", Kit.rename(x, "/f", "/d/f"), -7);
        Kit.due("make()", Kit.file(x, "/d/f"), -7);
        Kit.due("link()", Kit.link(x, "/f", "/d/f"), -7);
        Kit.due("copy()", Kit.copy(x, "/f", "/d/f"), -7);
        Kit.due("open()", Kit.open(x, "/d/f", 4), -7);
        Kit.due("write()", Kit.write(x, 4, 0, "a"), -7);
        x.end();
        Kit.due("behind it", Kit.rename(x, "/f", "/d/f"), 0);
    }

    private static void promise7RestingBlockCounts() {
        LedgerFiles x = Kit.mounted(128, 8, 16);
        Kit.directory(x, "/d");
        int big = Kit.file(x, "/big");
        Kit.fillUp(x, big, 0);
        x.flush();
        x.punch(big, 0, 128);
        Kit.due("one is free, and rests", x.count(0) * 10 + x.count(2), 11);
        Kit.due("make() takes it behind a flush", Kit.file(x, "/d/f"), 4);
        Kit.due("one change is in the queue", x.count(3), 1);
        Kit.due("none rests", x.count(2), 0);
        Kit.due("the block", x.where(2, 0), 62);
    }

    private static void promise11Held() {
        LedgerFiles x = Kit.mounted(128, 8, 16);
        int d = Kit.directory(x, "/d");
        int e = Kit.directory(x, "/d/e");
        int f = Kit.file(x, "/d/e/f");
        Kit.link(x, "/d/e/f", "/d/g");
        Kit.write(x, f, 0, "abc");
        x.hold(e);
        int h = Kit.open(x, "/d/g", 0);
        Kit.due("clear()", Kit.clear(x, "/d"), 4);
        Kit.due("a held directory is lost, and empty", x.about(e, 5) * 10 + x.about(e, 4), 0);
        Kit.due("its size stays", x.about(e, 1), 128);
        Kit.due("an open file is lost", x.about(f, 5) * 10 + x.count(15), 2);
        Kit.due("its bytes", x.get(h), (int) 'a');
        Kit.due("the top went", x.about(d, 0), -11);
        Kit.due("check", x.check(), 0);
        Kit.file(x, "/f");
        Kit.link(x, "/f", "/g");
        Kit.due("a file with two names", Kit.clear(x, "/g"), 1);
        Kit.due("keeps the other", x.about(Kit.find(x, "/f"), 5), 1);
        Kit.directory(x, "/empty");
        Kit.due("an empty directory", Kit.clear(x, "/empty"), 1);
    }

    /** Held directories with a file each, below one: when that is cleared, they stay, without their names. */
    private static LedgerFiles heldDirectories(int n) {
        LedgerFiles x = Kit.mounted(300, 8, 16);
        Kit.directory(x, "/dddddddd");
        for (int i = 0; i < n; i++) {
            String path = "/dddddddd/eeee" + (char) ('a' + i / 10) + i % 10;
            x.hold(Kit.directory(x, path));
            Kit.file(x, path + "/fff");
        }
        x.flush();
        return x;
    }

    private static void promise11TooManyHeld() {
        // of 24 directories: their blocks, 43, 44, 61, and inodes 2 to 50 in 13 blocks: 40; of 25 one more
        LedgerFiles x = heldDirectories(25);
        long tree = x.tree(true);
        String before = x.count(0) + " " + x.count(1) + " " + x.count(2) + " " + x.count(3) + " " + x.count(15);
        Kit.due("a change of 41 blocks", Kit.clear(x, "/dddddddd"), -12);
        Kit.due("nothing has changed", x.tree(true), tree);
        Kit.due("counts", x.count(0) + " " + x.count(1) + " " + x.count(2) + " " + x.count(3) + " " + x.count(15),
                before);
        x.begin();
        Kit.due("not asked in a group", Kit.clear(x, "/dddddddd"), 51);
        Kit.due("lost", x.count(15), 25);
        Kit.due("but at its end", x.end(), -12);
        Kit.due("nothing has changed then, too", x.tree(true), tree);
        LedgerFiles y = heldDirectories(24);
        Kit.due("a change of 40 blocks", Kit.clear(y, "/dddddddd"), 49);
        y.flush();
        Kit.due("entries", y.count(4), 40);
    }

    private static void promise12Edges() {
        LedgerFiles x = Kit.mounted(128, 8, 16);
        int f = Kit.file(x, "/f");
        x.mark(f, 3);
        int free = x.count(0);
        int c = Kit.copy(x, "/f", "/empty");
        Kit.due("an empty file", x.about(c, 1) * 10 + x.about(c, 2), 3);
        x.truncate(f, 400000);
        c = Kit.copy(x, "/f", "/holes");
        Kit.due("holes alone", x.about(c, 1) * 10 + x.about(c, 3), 4000000);
        Kit.due("no block was taken", x.count(0), free);
        Kit.write(x, f, 399999, "z");
        c = Kit.copy(x, "/f", "/far");
        Kit.due("the last block there can be", x.about(c, 3), 3);
        Kit.due("its last byte", x.read(c, 399999), (int) 'z');
        Kit.due("a byte ahead of it", x.read(c, 399998), 0);
        Kit.due("one change", x.count(3), 7);
        Kit.due("check", x.check(), 0);
    }

    private static void promise12TablesAheadOfInodes() {
        LedgerFiles x = Kit.mounted(300, 8, 16);
        int f = Kit.file(x, "/f");
        for (int j = 0; j < 32; j++) {
            x.fill(f, 9216 + 8192 * j, 1, 1);
        }
        for (int i = 3; i <= 64; i++) {
            Kit.file(x, "/f" + i);
        }
        Kit.due("33 tables, and no inode", Kit.copy(x, "/f", "/c"), -12);
        Kit.due("there already, ahead of both", Kit.copy(x, "/f", "/f3"), -2);
        x.punch(f, 9216, 128);
        Kit.due("32 tables, and no inode", Kit.copy(x, "/f", "/c"), -8);
        Kit.remove(x, "/f3");
        Kit.due("and an inode", Kit.copy(x, "/f", "/c"), 3);
    }

    private static void promise13Deep() {
        LedgerFiles x = Kit.mounted(128, 8, 16);
        StringBuilder path = new StringBuilder();
        for (int i = 0; i < 16; i++) {
            path.append("/thirteen-13-").append((char) ('a' + i));
            Kit.due("make at depth " + (i + 1), Kit.directory(x, path.toString()), i + 2);
        }
        Kit.due("224 bytes", path.length(), 224);
        Kit.due("find at depth 16", Kit.find(x, path.toString()), 17);
        Kit.due("17 names", Kit.find(x, path + "/a"), -6);
        Kit.due("more than 255 bytes", Kit.find(x, path + "/" + "a".repeat(40)), -6);
        Kit.due("a name of 14", Kit.find(x, "/fourteen-14-xx"), -6);
        Kit.due("rename from depth 16", Kit.rename(x, path.toString(), "/a"), 0);
        Kit.due("find", Kit.find(x, "/a"), 17);
    }

    private static void promise8BitsOfInodes() {
        LedgerFiles x = Kit.mounted(128, 8, 16);
        for (int i = 2; i <= 64; i++) {
            Kit.file(x, "/f" + i);
        }
        for (int i : new int[] {8, 9, 10, 16, 17, 57, 64}) {
            Kit.remove(x, "/f" + i);
            Kit.due("bit of inode " + i, Kit.seen(x, 44, 0, 8) >> i - 1 & 1, 0);
        }
        Kit.due("the others", Long.bitCount(Kit.seen(x, 44, 0, 8)), 57);
        Kit.due("check", x.check(), 0);
    }

    private static void promise9OneChange() {
        LedgerFiles x = Kit.mounted(128, 8, 16);
        Kit.file(x, "/f");
        Kit.file(x, "/g");
        Kit.due("in place of a file", Kit.rename(x, "/f", "/g"), 0);
        Kit.due("one change", x.count(3), 3);
        Kit.due("to a new name", Kit.rename(x, "/g", "/h"), 0);
        Kit.due("one change", x.count(3), 4);
        x.flush();
        x.crash();
        x.restart(1);
        x.mount();
        Kit.due("find", Kit.find(x, "/h"), 2);
    }

    private static void promise11BelowADirectory() {
        LedgerFiles x = Kit.mounted(128, 8, 16);
        Kit.directory(x, "/a");
        Kit.file(x, "/b");
        Kit.directory(x, "/a/b");
        Kit.file(x, "/a/b/c");
        Kit.file(x, "/a/d");
        Kit.due("a directory in a directory", Kit.clear(x, "/a/b"), 2);
        Kit.due("its name is free", Kit.find(x, "/a/b"), -1);
        Kit.due("a file in a directory", Kit.clear(x, "/a/d"), 1);
        Kit.due("others stay", Kit.find(x, "/b") * 10 + Kit.find(x, "/a"), 32);
        Kit.due("names", x.about(1, 4) * 10 + x.about(2, 4), 20);
        Kit.due("check", x.check(), 0);
    }

    private static void promise12CountsItsOwnBlocksAlone() {
        LedgerFiles x = Kit.mounted(128, 8, 16);
        int far = Kit.file(x, "/far");
        x.fill(far, 0, 1, 1);
        x.fill(far, 9216, 1, 1);
        int f = Kit.file(x, "/f");
        x.fill(f, 0, 1, 1);
        int big = Kit.file(x, "/big");
        Kit.fillUp(x, big, 1);
        Kit.due("blocks of another one", x.about(far, 3), 4);
        Kit.due("a copy of one block", Kit.copy(x, "/f", "/c"), 5);
        Kit.due("none is free", x.count(0), 0);
    }

    private static void promise13Beginnings() {
        LedgerFiles x = Kit.mounted(128, 8, 16);
        int f = Kit.file(x, "/abc");
        Kit.due("a name that begins alike", Kit.find(x, "/ab"), -1);
        Kit.due("one that is longer", Kit.find(x, "/abcd"), -1);
        Kit.due("the name", Kit.find(x, "/abc"), f);
        Kit.due("made beside it", Kit.file(x, "/ab"), 3);
        Kit.due("made beside it", Kit.file(x, "/abcd"), 4);
        Kit.due("removed", Kit.remove(x, "/abc"), 0);
        Kit.due("the others stay", Kit.find(x, "/ab") * 10 + Kit.find(x, "/abcd"), 34);
        Kit.due("it is gone", Kit.find(x, "/abc"), -1);
    }

    private static void promise9AllInOneChange() {
        LedgerFiles x = Kit.mounted(128, 8, 16);
        Kit.file(x, "/f");
        Kit.file(x, "/g");
        Kit.rename(x, "/f", "/g");
        x.flush();
        x.crash();
        x.restart(1);
        x.mount();
        Kit.due("what lost its name went with it", x.about(3, 0), -11);
        Kit.due("check", x.check(), 0);
        Kit.due("find", Kit.find(x, "/g"), 2);
    }

    private static void promise9LongNames() {
        LedgerFiles x = Kit.mounted(128, 8, 16);
        Kit.directory(x, "/d");
        Kit.directory(x, "/dd");
        Kit.directory(x, "/abc");
        Kit.directory(x, "/abd");
        Kit.directory(x, "/d/abc");
        Kit.due("into one whose name is a beginning of it", Kit.rename(x, "/dd", "/d/x"), 0);
        Kit.due("into one whose last letter is another one", Kit.rename(x, "/abc", "/abd/x"), 0);
        Kit.due("into itself", Kit.rename(x, "/abd", "/abd/x/y"), -9);
        Kit.due("into itself, two names", Kit.rename(x, "/d/abc", "/d/abc/y"), -9);
        Kit.due("into another one below the same", Kit.rename(x, "/d/abc", "/d/x/abc"), 0);
        Kit.due("into another one, the last letter differs", Kit.rename(x, "/d/x/abc", "/d/x/abd/x"), -1);
        Kit.due("check", x.check(), 0);
    }

    private static void promise9LongPaths() {
        LedgerFiles x = Kit.mounted(128, 8, 16);
        StringBuilder path = new StringBuilder();
        for (int i = 0; i < 15; i++) {
            path.append("/thirteen-13-").append((char) ('a' + i));
            Kit.directory(x, path.toString());
        }
        int f = Kit.file(x, path + "/thirteen-13-x");
        Kit.due("two paths of 224 bytes", Kit.rename(x, path + "/thirteen-13-x", path + "/thirteen-13-y"), 0);
        Kit.due("find", Kit.find(x, path + "/thirteen-13-y"), f);
        Kit.due("link", Kit.link(x, path + "/thirteen-13-y", path + "/thirteen-13-z"), 2);
        Kit.due("copy", Kit.copy(x, path + "/thirteen-13-y", path + "/thirteen-13-c"), f + 1);
        Kit.due("17 names", Kit.rename(x, path + "/thirteen-13-y", path + "/a/b"), -6);
    }

    private static void promise12CommitIsLast() {
        LedgerFiles x = Kit.mounted(128, 8, 1);
        int f = Kit.file(x, "/f");
        x.fill(f, 0, 300, 5);
        x.apply();
        int c = Kit.copy(x, "/f", "/c");
        Kit.due("its bytes were settled with its change", x.count(6), 0);
        x.crash();
        x.restart(1);
        x.mount();
        Kit.due("find", Kit.find(x, "/c"), c);
        Kit.due("blocks", x.about(c, 3), 3);
        Kit.due("its last byte", x.read(c, 299), x.read(f, 299));
        Kit.due("check", x.check(), 0);
    }

    private static void promise12ZerosBehindSizeInALaterBlock() {
        LedgerFiles x = Kit.mounted(128, 8, 4);
        int f = Kit.file(x, "/f");
        x.fill(f, 0, 130, 1);
        x.begin();
        Kit.write(x, f, 130, "behind");
        x.undo();
        int c = Kit.copy(x, "/f", "/c");
        x.truncate(f, 140);
        x.truncate(c, 140);
        Kit.due("what stands there is seen", x.read(f, 130), (int) 'b');
        Kit.due("the copy's is 0", x.read(c, 130), 0);
        Kit.due("below the size it is the same", x.read(c, 129), x.read(f, 129));
    }

    /** A call that reads the tape, with a full one: 1,023 bytes and a last one. */
    private static void fullTape(LedgerFiles x, char first, char last) {
        StringBuilder text = new StringBuilder().append(first);
        while (text.length() < 1023) {
            text.append('a');
        }
        text.append(last);
        for (int at = 0; at < 1000; at += 20) {
            Kit.tape(x, text.substring(at, at + 20));
        }
        Kit.tape(x, text.substring(1000, 1004));
        Kit.tape(x, text.substring(1004));
        Kit.due("a full tape", x.count(12), 1024);
    }

    private static void promise9WhatWentFromTheTape() {
        LedgerFiles x = Kit.mounted(128, 8, 16);
        Kit.file(x, "/g");
        Kit.tape(x, "/g\0/h");
        x.back(2);
        Kit.due("the second path went by back()", x.rename(), -6);
        Kit.tape(x, "/g\0/h");
        x.back(3);
        Kit.due("the byte 0, too", x.rename(), -6);
        Kit.tape(x, "/g");
        x.back(2);
        Kit.due("all went", x.find(), -6);
        Kit.tape(x, "/g");
        x.back(1);
        Kit.due("the name went", x.find(), 1);
        Kit.due("nothing was fed", x.find(), -6);
    }

    private static void promise9FullTape() {
        LedgerFiles x = Kit.mounted(128, 8, 16);
        Kit.file(x, "/g");
        fullTape(x, '/', 'a');
        Kit.due("find", x.find(), -6);
        fullTape(x, '/', '\0');
        Kit.due("rename, the byte 0 is the last", x.rename(), -6);
        fullTape(x, '\0', '/');
        Kit.due("link, the byte 0 is the first", x.link(), -6);
        fullTape(x, '/', '/');
        Kit.due("make", x.make(false), -6);
        fullTape(x, 'a', 'z');
        Kit.due("write", x.write(2, 0), 1024);
        Kit.due("its last byte", x.read(2, 1023), (int) 'z');
    }

    public static void main(String[] args) {
        promise7Make();
        promise7Slots();
        promise7DeepPath();
        promise7NoInodes();
        promise7NoBlocks();
        promise8Remove();
        promise8Held();
        promise9Rename();
        promise9Wrong();
        promise9InPlace();
        promise9NoBlocks();
        promise10Link();
        promise10NoBlocks();
        promise11Clear();
        promise11TooMany();
        promise11Deep();
        promise12Copy();
        promise12Wrong();
        promise12TooManyTables();
        promise12NoBlocks();
        promise12ZerosBehindSize();
        promise13Find();
        promise7InodesAheadOfBlocks();
        promise7NinthBlock();
        promise7RestingBlockCounts();
        promise8LastOfTwo();
        promise9FullDirectory();
        promise9SameInode();
        promise9HeldGoesLost();
        promise9FreedInGroup();
        promise11Held();
        promise11TooManyHeld();
        promise12Edges();
        promise12TablesAheadOfInodes();
        promise13Deep();
        promise8BitsOfInodes();
        promise9OneChange();
        promise11BelowADirectory();
        promise12CountsItsOwnBlocksAlone();
        promise13Beginnings();
        promise9AllInOneChange();
        promise9LongNames();
        promise9LongPaths();
        promise12CommitIsLast();
        promise12ZerosBehindSizeInALaterBlock();
        promise9WhatWentFromTheTape();
        promise9FullTape();
        Kit.done();
    }
}
