/** Promises 26 to 31: handles. */
public final class HandlesTest {
    private static final int[] NO_HANDLES = {-1, 32, 7, Integer.MIN_VALUE, Integer.MAX_VALUE};

    private static void promise26Open() {
        LedgerFiles x = Kit.mounted(200, 8, 16);
        Kit.directory(x, "/d");
        int f = Kit.file(x, "/f");
        Kit.write(x, f, 0, "bytes");
        Kit.due("to read", Kit.open(x, "/f", 0), 0);
        Kit.due("to write", Kit.open(x, "/f", 1), 1);
        Kit.due("at the end", Kit.open(x, "/f", 2), 2);
        for (int h = 0; h < 3; h++) {
            Kit.due("inode", x.look(h, 0), f);
            Kit.due("place", x.look(h, 1), 0);
            Kit.due("way", x.look(h, 2), h);
        }
        x.close(1);
        Kit.due("the lowest free one", Kit.open(x, "/f", 6), 1);
        Kit.due("its way", x.look(1, 2), 2);
        Kit.due("it stays as it is", Kit.text(x, f), "bytes");
        int changes = x.count(3);
        Kit.due("made", Kit.open(x, "/d/g", 4), 3);
        Kit.due("its inode", x.look(3, 0), 4);
        Kit.due("find", Kit.find(x, "/d/g"), 4);
        Kit.due("one change", x.count(3) - changes, 1);
        Kit.due("emptied", Kit.open(x, "/f", 9), 4);
        Kit.due("size", x.about(f, 1), 0);
        Kit.due("way", x.look(4, 2), 1);
        Kit.due("made, with 8", Kit.open(x, "/h", 14), 5);
        Kit.due("kind", x.about(x.look(5, 0), 0), 1);
        Kit.write(x, f, 0, "again");
        Kit.due("there, with 4 and 8", Kit.open(x, "/f", 13), 6);
        Kit.due("emptied, too", x.about(f, 1), 0);
        Kit.due("held", x.about(f, 6), 5);
        Kit.due("check", x.check(), 0);
    }

    private static void promise26Wrong() {
        LedgerFiles x = Kit.mounted(200, 8, 16);
        Kit.directory(x, "/d");
        Kit.file(x, "/f");
        for (int way : new int[] {-1, 3, 7, 8, 11, 12, 15, 16, 17, 20, Integer.MIN_VALUE, Integer.MAX_VALUE}) {
            Kit.tape(x, "/f");
            Kit.call("open(" + way + ")", Kit.ARGUMENT, () -> x.open(way));
            Kit.due("the tape", x.count(12), 0);
        }
        for (String path : new String[] {"", "f", "/f/", "/."}) {
            Kit.due("open of " + path, Kit.open(x, path, 4), -6);
        }
        Kit.due("nothing", Kit.open(x, "/no", 0), -1);
        Kit.due("nothing, to be emptied", Kit.open(x, "/no", 9), -1);
        Kit.due("below nothing", Kit.open(x, "/no/f", 4), -1);
        Kit.due("below a file", Kit.open(x, "/f/g", 4), -3);
        Kit.due("below a file, not made", Kit.open(x, "/f/g", 1), -3);
        Kit.due("a directory", Kit.open(x, "/d", 0), -4);
        Kit.due("a directory, with 4", Kit.open(x, "/d", 4), -4);
        Kit.due("the root", Kit.open(x, "/", 4), -4);
        for (int h = 0; h < 32; h++) {
            Kit.due("handle " + h, Kit.open(x, "/f", 0), h);
        }
        Kit.due("no handle is free", Kit.open(x, "/f", 9), -9);
        Kit.due("nor for a new one", Kit.open(x, "/new", 4), -9);
        Kit.due("that was not made", Kit.find(x, "/new"), -1);
        Kit.due("a directory goes ahead", Kit.open(x, "/d", 0), -4);
        x.unmount();
        Kit.tape(x, "/f");
        Kit.call("open() when not mounted", Kit.STATE, () -> x.open(3));
        Kit.due("the tape", x.count(12), 0);
    }

    private static void promise26NoRoom() {
        LedgerFiles x = Kit.mounted(128, 8, 1);
        Kit.directory(x, "/d");
        int f = Kit.file(x, "/f");
        Kit.fillUp(x, f, 0);
        Kit.due("no block for the name", Kit.open(x, "/d/g", 4), -7);
        Kit.due("handles", x.count(17), 0);
        for (int i = 4; i <= 8; i++) {
            Kit.file(x, "/f" + i);
        }
        LedgerFiles y = Kit.mounted(128, 8, 16);
        for (int i = 2; i <= 64; i++) {
            Kit.file(y, "/f" + i);
        }
        Kit.due("no inode", Kit.open(y, "/g", 4), -8);
        Kit.due("one that is there", Kit.open(y, "/f9", 4), 0);
    }

    private static void promise27Close() {
        LedgerFiles x = Kit.mounted(200, 8, 16);
        int f = Kit.file(x, "/f");
        Kit.open(x, "/f", 0);
        Kit.open(x, "/f", 1);
        Kit.remove(x, "/f");
        Kit.due("close", x.close(0), 0);
        Kit.due("again", x.close(0), -13);
        Kit.due("the other holds it", x.about(f, 5), 0);
        Kit.due("the last", x.close(1), 0);
        Kit.due("it went", x.about(f, 0), -11);
        for (int h : NO_HANDLES) {
            Kit.due("close(" + h + ")", x.close(h), -13);
        }
        Kit.due("handles", x.count(17), 0);
        int g = Kit.file(x, "/g");
        Kit.open(x, "/g", 0);
        x.hold(g);
        Kit.remove(x, "/g");
        x.close(0);
        Kit.due("hold() holds it", x.about(g, 6), 1);
        x.crash();
        Kit.call("close() without power", Kit.STATE, () -> x.close(0));
    }

    private static void promise28Put() {
        LedgerFiles x = Kit.mounted(200, 8, 16);
        int f = Kit.file(x, "/f");
        int w = Kit.open(x, "/f", 1);
        int e = Kit.open(x, "/f", 2);
        int r = Kit.open(x, "/f", 0);
        Kit.due("put", Kit.put(x, w, "abc"), 3);
        Kit.due("again", Kit.put(x, w, "def"), 3);
        Kit.due("place", x.look(w, 1), 6);
        Kit.due("at the end", Kit.put(x, e, "xyz"), 3);
        Kit.due("its place", x.look(e, 1), 9);
        x.seek(e, 1);
        Kit.due("at the end, whatever its place is", Kit.put(x, e, "!"), 1);
        Kit.due("its place then", x.look(e, 1), 10);
        x.seek(w, 1);
        Kit.put(x, w, "B");
        Kit.due("text", Kit.text(x, f), "aBcdefxyz!");
        Kit.due("without bytes", x.put(e), 0);
        x.seek(e, 4);
        Kit.due("without bytes the place stays", x.put(e) * 10 + x.look(e, 1), 4);
        Kit.due("to read", Kit.put(x, r, "a"), -9);
        Kit.due("to read, without bytes", x.put(r), -9);
        for (int h : NO_HANDLES) {
            Kit.due("put(" + h + ")", Kit.put(x, h, "a"), -13);
        }
        x.seek(w, 400000);
        Kit.due("beyond", Kit.put(x, w, "a"), -10);
        Kit.due("place stays", x.look(w, 1), 400000);
        x.truncate(f, 400000);
        Kit.due("beyond, at the end", Kit.put(x, e, "a"), -10);
        Kit.remove(x, "/f");
        x.seek(w, 0);
        Kit.due("into a lost file", Kit.put(x, w, "lost"), 4);
        Kit.due("its byte", x.read(f, 3), (int) 't');
        Kit.due("the tape", x.count(12), 0);
        x.unmount();
        Kit.tape(x, "a");
        Kit.call("put() when not mounted", Kit.STATE, () -> x.put(w));
        Kit.due("the tape then", x.count(12), 0);
    }

    private static void promise28NoBlocks() {
        LedgerFiles x = Kit.mounted(128, 8, 1);
        int f = Kit.file(x, "/f");
        Kit.fillUp(x, f, 0);
        int h = Kit.open(x, "/f", 2);
        Kit.due("no block", Kit.put(x, h, "a"), -7);
        Kit.due("place", x.look(h, 1), 0);
        int w = Kit.open(x, "/f", 1);
        Kit.due("over bytes", Kit.put(x, w, "a"), 1);
    }

    private static void promise29Get() {
        LedgerFiles x = Kit.mounted(200, 8, 16);
        int f = Kit.file(x, "/f");
        Kit.write(x, f, 0, "a\u00ff");
        for (int way = 0; way < 3; way++) {
            int h = Kit.open(x, "/f", way);
            Kit.due("first", x.get(h), (int) 'a');
            Kit.due("second", x.get(h), 255);
            Kit.due("at the end", x.get(h), -1);
            Kit.due("it stays", x.look(h, 1), 2);
            x.seek(h, 100);
            Kit.due("behind it", x.get(h), -1);
            Kit.due("it stays there", x.look(h, 1), 100);
        }
        for (int h : NO_HANDLES) {
            Kit.due("get(" + h + ")", x.get(h), -13);
        }
        x.crash();
        Kit.call("get() without power", Kit.STATE, () -> x.get(0));
    }

    private static void promise30Seek() {
        LedgerFiles x = Kit.mounted(200, 8, 16);
        Kit.file(x, "/f");
        int h = Kit.open(x, "/f", 0);
        Kit.due("seek", x.seek(h, 400000), 0);
        Kit.due("where it was", x.seek(h, 5), 400000);
        Kit.due("beyond", x.seek(h, 400001), -10);
        Kit.due("below 0", x.seek(h, -1), -10);
        Kit.due("it stays", x.look(h, 1), 5);
        Kit.due("to 0", x.seek(h, 0), 5);
        for (int none : NO_HANDLES) {
            Kit.due("seek(" + none + ")", x.seek(none, -1), -13);
        }
        x.unmount();
        Kit.call("seek() when not mounted", Kit.STATE, () -> x.seek(h, 0));
    }

    private static void promise31Look() {
        LedgerFiles x = Kit.mounted(200, 8, 16);
        int f = Kit.file(x, "/f");
        int h = Kit.open(x, "/f", 5);
        x.seek(h, 77);
        Kit.due("inode", x.look(h, 0), f);
        Kit.due("place", x.look(h, 1), 77);
        Kit.due("way", x.look(h, 2), 1);
        Kit.call("what 3", Kit.ARGUMENT, () -> x.look(-1, 3));
        Kit.call("what -1", Kit.ARGUMENT, () -> x.look(h, -1));
        for (int none : NO_HANDLES) {
            Kit.due("look(" + none + ")", x.look(none, 0), -13);
        }
        x.crash();
        Kit.call("look() without power", Kit.STATE, () -> x.look(h, 3));
    }

    private static void promise26Order() {
        LedgerFiles x = Kit.mounted(128, 8, 16);
        Kit.directory(x, "/d");
        for (int i = 3; i <= 64; i++) {
            Kit.file(x, "/f" + i);
        }
        Kit.due("no inode", Kit.open(x, "/new", 4), -8);
        for (int h = 0; h < 32; h++) {
            Kit.open(x, "/f3", h % 3);
        }
        Kit.due("no handle, ahead of no inode", Kit.open(x, "/new", 4), -9);
        Kit.due("nothing there, ahead of no handle", Kit.open(x, "/new", 0), -1);
        Kit.due("handles", x.count(17), 32);
        x.close(31);
        Kit.due("the last handle", Kit.open(x, "/f3", 0), 31);
        x.close(0);
        x.close(31);
        Kit.due("the lowest of two", Kit.open(x, "/f3", 0), 0);
    }

    private static void promise26Emptied() {
        LedgerFiles x = Kit.mounted(128, 8, 16);
        int f = Kit.file(x, "/f");
        x.fill(f, 0, 1500, 1);
        int free = x.count(0);
        int changes = x.count(3);
        Kit.due("with 8", Kit.open(x, "/f", 10), 0);
        Kit.due("blocks and its table are free", x.count(0) - free, 13);
        Kit.due("one change", x.count(3) - changes, 1);
        Kit.due("once more, empty", Kit.open(x, "/f", 9), 1);
        Kit.due("no change", x.count(3) - changes, 1);
        Kit.due("no change of a way without 8", Kit.open(x, "/f", 4) * 10 + x.count(3) - changes, 21);
        x.power(0);
        Kit.due("opening makes no step", Kit.open(x, "/f", 2), 3);
        Kit.due("handles", x.count(17), 4);
    }

    private static void promise26NoHandleChangesNothing() {
        LedgerFiles x = Kit.mounted(128, 8, 16);
        int f = Kit.file(x, "/f");
        x.fill(f, 0, 300, 1);
        for (int h = 0; h < 32; h++) {
            Kit.open(x, "/f", 1);
        }
        Kit.due("no handle, to be emptied", Kit.open(x, "/f", 9), -9);
        Kit.due("its size stays", x.about(f, 1), 300);
    }

    private static void promise28Edges() {
        LedgerFiles x = Kit.mounted(200, 8, 16);
        int f = Kit.file(x, "/f");
        int w = Kit.open(x, "/f", 1);
        int e = Kit.open(x, "/f", 2);
        x.seek(w, 399999);
        Kit.due("two bytes end behind 400,000", Kit.put(x, w, "ab"), -10);
        Kit.due("its place stays", x.look(w, 1), 399999);
        Kit.due("one byte does not", Kit.put(x, w, "a"), 1);
        Kit.due("its place", x.look(w, 1), 400000);
        Kit.due("without bytes at 400,000", x.put(w), 0);
        Kit.due("at the end there is no room", Kit.put(x, e, "a"), -10);
        x.truncate(f, 5);
        Kit.due("a place behind the end", x.get(w), -1);
        x.seek(w, 300);
        Kit.due("put behind a hole", Kit.put(x, w, "z"), 1);
        Kit.due("size", x.about(f, 1), 301);
        Kit.due("closed", x.close(w) + Kit.put(x, w, "a"), -13);
        for (int none : new int[] {-1, 32}) {
            Kit.due("put(" + none + ")", Kit.put(x, none, "a"), -13);
        }
    }

    private static void promise27Kept() {
        LedgerFiles x = Kit.mounted(200, 8, 16);
        int f = Kit.file(x, "/f");
        Kit.open(x, "/f", 0);
        int changes = x.count(3);
        Kit.due("a file with a name stays", x.close(0), 0);
        Kit.due("its kind", x.about(f, 0), 1);
        Kit.due("no change", x.count(3), changes);
        Kit.open(x, "/f", 0);
        x.hold(f);
        Kit.remove(x, "/f");
        x.release(f);
        changes = x.count(3);
        Kit.due("the last that holds it", x.close(0), 0);
        Kit.due("it goes, one change", x.about(f, 0) * 10 + x.count(3) - changes, -109);
        LedgerFiles y = Kit.mounted(200, 8, 1);
        Kit.open(y, "/f", 4);
        Kit.remove(y, "/f");
        y.power(0);
        Kit.call("close() whose change fails", Kit.POWER, () -> y.close(0));
    }

    private static void promise29Grows() {
        LedgerFiles x = Kit.mounted(200, 8, 16);
        int f = Kit.file(x, "/f");
        int h = Kit.open(x, "/f", 0);
        Kit.due("an empty file", x.get(h), -1);
        Kit.write(x, f, 0, "a");
        Kit.due("then it has a byte", x.get(h), (int) 'a');
        x.truncate(f, 400000);
        x.seek(h, 399999);
        Kit.due("the last byte there can be, a hole's", x.get(h), 0);
        Kit.due("place", x.look(h, 1), 400000);
        Kit.due("behind it", x.get(h), -1);
        Kit.due("place stays", x.look(h, 1), 400000);
    }

    private static void promise26PlaceIsZero() {
        LedgerFiles x = Kit.mounted(200, 8, 16);
        Kit.file(x, "/f");
        Kit.open(x, "/f", 1);
        x.seek(0, 77);
        x.close(0);
        Kit.due("the handle again", Kit.open(x, "/f", 2), 0);
        Kit.due("its place", x.look(0, 1), 0);
        Kit.due("its way", x.look(0, 2), 2);
    }

    public static void main(String[] args) {
        promise26Open();
        promise26Wrong();
        promise26NoRoom();
        promise27Close();
        promise28Put();
        promise28NoBlocks();
        promise29Get();
        promise30Seek();
        promise31Look();
        promise26Order();
        promise26Emptied();
        promise26NoHandleChangesNothing();
        promise27Kept();
        promise28Edges();
        promise29Grows();
        promise26PlaceIsZero();
        Kit.done();
    }
}
