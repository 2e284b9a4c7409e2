/** Promises 1 to 3: a new object, and the tape. */
public final class TapeTest {
    private static void promise1NewObject() {
        int[][] sizes = {{128, 128}, {127, 128}, {0, 128}, {-5, 128}, {Integer.MIN_VALUE, 128}, {129, 129},
            {1024, 1024}, {1025, 1024}, {Integer.MAX_VALUE, 1024}};
        for (int[] size : sizes) {
            LedgerFiles x = new LedgerFiles(size[0], 8, 4);
            Kit.due("format() of " + size[0] + " blocks", x.format(), size[1] - 61);
            Kit.call("byteAt of the last of " + size[1], 0, () -> x.byteAt(size[1] - 1, 127));
            Kit.call("byteAt behind the last of " + size[1], Kit.NO_ELEMENT, () -> x.byteAt(size[1], 0));
        }
        LedgerFiles y = new LedgerFiles(200, 8, 4);
        int bytes = 0;
        for (int b = 0; b < 200; b++) {
            for (int i = 0; i < 128; i++) {
                bytes += y.byteAt(b, i);
            }
        }
        Kit.due("all bytes of a new disk", bytes, 0);
        int[] counts = {0, 0, 0, 0, 0, 0, 0, 0, 0, 0, -1, 0, 0, 0, 1, 0, 0, 0};
        for (int what = 0; what < counts.length; what++) {
            Kit.due("count(" + what + ") of a new object", y.count(what), counts[what]);
        }
        Kit.call("find() of a new object", Kit.STATE, y::find);
    }

    private static int mostInBuffer(int buffer) {
        LedgerFiles x = Kit.mounted(300, buffer, 16);
        int inode = Kit.file(x, "/f");
        int most = 0;
        for (int i = 0; i < 8; i++) {
            x.fill(inode, 2000 * i, 2000, 1);
            most = Math.max(most, x.count(6));
        }
        return most;
    }

    private static int mostInQueue(int group) {
        LedgerFiles x = Kit.mounted(300, 8, group);
        int most = 0;
        for (int i = 0; i < 40; i++) {
            x.mark(1, i + 1);
            most = Math.max(most, x.count(3));
        }
        return most;
    }

    private static void promise1BufferAndGroup() {
        int[][] buffers = {{4, 4}, {3, 4}, {-9, 4}, {5, 5}, {64, 64}, {65, 64}, {Integer.MAX_VALUE, 64}};
        for (int[] b : buffers) {
            Kit.due("most blocks in a buffer of " + b[0], mostInBuffer(b[0]), b[1]);
        }
        int[][] groups = {{1, 0}, {0, 0}, {-1, 0}, {2, 1}, {16, 15}, {17, 15}, {Integer.MAX_VALUE, 15}};
        for (int[] g : groups) {
            Kit.due("most changes in a queue of " + g[0], mostInQueue(g[0]), g[1]);
        }
    }

    private static void promise2Feed() {
        LedgerFiles x = Kit.mounted(200, 8, 4);
        int inode = Kit.file(x, "/f");
        Kit.due("feed", x.feed(0x01020304, 0xfffefdfc, 0x80000000, 0x7f, 0x2f61), 20);
        x.write(inode, 0);
        int[] due = {1, 2, 3, 4, 255, 254, 253, 252, 128, 0, 0, 0, 0, 0, 0, 127, 0, 0, 47, 97};
        for (int i = 0; i < due.length; i++) {
            Kit.due("byte " + i + " that was fed", x.read(inode, i), due[i]);
        }
        for (int i = 1; i <= 51; i++) {
            Kit.due("feed " + i, x.feed(1, 2, 3, 4, i), 20 * i);
        }
        Kit.due("feed of more than 1,024", x.feed(9, 9, 9, 9, 9), -1);
        Kit.due("count(12) of a full tape", x.count(12), 1020);
        x.back(16);
        Kit.due("feed to 1,024", x.feed(9, 9, 9, 9, 9), 1024);
        Kit.due("feed behind 1,024", x.feed(0, 0, 0, 0, 0), -1);
        Kit.due("write of the full tape", x.write(inode, 0), 1024);
        Kit.due("last byte of the full tape", x.read(inode, 1023), 9);
        LedgerFiles dark = Kit.dark(200, 8, 4);
        Kit.due("feed without power", dark.feed(1, 1, 1, 1, 1), 20);
    }

    private static void promise3Back() {
        LedgerFiles x = new LedgerFiles(200, 8, 4);
        Kit.due("back(0) of an empty tape", x.back(0), 0);
        Kit.due("back(1) of an empty tape", x.back(1), -1);
        x.feed(1, 2, 3, 4, 5);
        Kit.due("back(-1)", x.back(-1), -1);
        Kit.due("back of the lowest int", x.back(Integer.MIN_VALUE), -1);
        Kit.due("back(21)", x.back(21), -1);
        Kit.due("count(12) behind backs that did nothing", x.count(12), 20);
        Kit.due("back(3)", x.back(3), 17);
        Kit.due("back(17)", x.back(17), 0);
        Kit.due("back of the highest int", x.back(Integer.MAX_VALUE), -1);
    }

    private static void promise2OneByteTooMany() {
        LedgerFiles x = new LedgerFiles(200, 8, 4);
        for (int i = 0; i < 51; i++) {
            x.feed(0, 0, 0, 0, 0);
        }
        Kit.due("back to 1,005", x.back(15), 1005);
        Kit.due("1,025 are too many", x.feed(1, 1, 1, 1, 1), -1);
        Kit.due("nothing came", x.count(12), 1005);
        Kit.due("back to 1,004", x.back(1), 1004);
        Kit.due("1,024 are not", x.feed(1, 1, 1, 1, 1), 1024);
        Kit.due("back(1025)", x.back(1025), -1);
        Kit.due("back(1024)", x.back(1024), 0);
    }

    public static void main(String[] args) {
        promise1NewObject();
        promise1BufferAndGroup();
        promise2Feed();
        promise3Back();
        promise2OneByteTooMany();
        Kit.done();
    }
}
