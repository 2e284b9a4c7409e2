/** What the tests of the promises share: calls with the answers that are due, and short ways to make calls. */
final class Kit {
    static final String STATE = "throws.IllegalStateException";
    static final String ARGUMENT = "throws.IllegalArgumentException";
    static final String NO_ELEMENT = "throws.NoSuchElementException";
    static final String POWER = "throws.UnsupportedOperationException";

    private static int wrong;
    private static int asked;

    interface Call {
        Object run();
    }

    interface VoidCall {
        void run();
    }

    private Kit() {
    }

    static void due(String what, Object got, Object want) {
        asked++;
        if (!String.valueOf(got).equals(String.valueOf(want))) {
            wrong++;
            System.out.println(what + " answered " + got + ", due is " + want);
        }
    }

    private static String thrown(RuntimeException e) {
        return "throws." + e.getClass().getSimpleName();
    }

    static void call(String what, Object want, Call call) {
        Object got;
        try {
            got = call.run();
        } catch (RuntimeException e) {
            got = thrown(e);
        }
        due(what, got, want);
    }

    static void run(String what, String want, VoidCall call) {
        String got = "";
        try {
            call.run();
        } catch (RuntimeException e) {
            got = thrown(e);
        }
        due(what, got, want);
    }

    static void done() {
        if (wrong > 0 || asked == 0) {
            System.out.println(wrong + " of " + asked + " answers are wrong");
            System.exit(1);
        }
    }

    static LedgerFiles mounted(int blocks, int buffer, int group) {
        LedgerFiles x = new LedgerFiles(blocks, buffer, group);
        x.format();
        x.mount();
        return x;
    }

    /** The text comes behind what the tape has. */
    static void tape(LedgerFiles x, String text) {
        for (int at = 0; at < text.length(); at += 20) {
            int[] five = new int[5];
            for (int i = 0; i < 20; i++) {
                five[i / 4] = five[i / 4] << 8 | (at + i < text.length() ? text.charAt(at + i) : 0);
            }
            x.feed(five[0], five[1], five[2], five[3], five[4]);
        }
        x.back((text.length() + 19) / 20 * 20 - text.length());
    }

    static int file(LedgerFiles x, String path) {
        tape(x, path);
        return x.make(false);
    }

    static int directory(LedgerFiles x, String path) {
        tape(x, path);
        return x.make(true);
    }

    static int remove(LedgerFiles x, String path) {
        tape(x, path);
        return x.remove();
    }

    static int rename(LedgerFiles x, String path, String second) {
        tape(x, path + "\0" + second);
        return x.rename();
    }

    static int link(LedgerFiles x, String path, String second) {
        tape(x, path + "\0" + second);
        return x.link();
    }

    static int clear(LedgerFiles x, String path) {
        tape(x, path);
        return x.clear();
    }

    static int copy(LedgerFiles x, String path, String second) {
        tape(x, path + "\0" + second);
        return x.copy();
    }

    static int find(LedgerFiles x, String path) {
        tape(x, path);
        return x.find();
    }

    static int open(LedgerFiles x, String path, int way) {
        tape(x, path);
        return x.open(way);
    }

    static int write(LedgerFiles x, int inode, int at, String text) {
        tape(x, text);
        return x.write(inode, at);
    }

    static int put(LedgerFiles x, int handle, String text) {
        tape(x, text);
        return x.put(handle);
    }

    /** Bytes of a block as the file system sees it, as one number, the lowest first. */
    static long seen(LedgerFiles x, int block, int at, int n) {
        long v = 0;
        for (int i = n - 1; i >= 0; i--) {
            v = v << 8 | x.seen(block, at + i);
        }
        return v;
    }

    /** The same as the disk reads it. */
    static long onDisk(LedgerFiles x, int block, int at, int n) {
        long v = 0;
        for (int i = n - 1; i >= 0; i--) {
            v = v << 8 | x.byteAt(block, at + i);
        }
        return v;
    }

    /** The bytes of a file as text, NONE as nothing. */
    static String text(LedgerFiles x, int inode) {
        StringBuilder s = new StringBuilder();
        for (int at = 0; at < 500 && x.read(inode, at) != LedgerFiles.NONE; at++) {
            s.append((char) x.read(inode, at));
        }
        return s.toString();
    }

    /** How many bytes of a block, as it is seen, are not 0. */
    static int notZero(LedgerFiles x, int block) {
        int n = 0;
        for (int i = 0; i < 128; i++) {
            n += x.seen(block, i) == 0 ? 0 : 1;
        }
        return n;
    }

    /** A file grows, block by block, till so many blocks are free. */
    static void fillUp(LedgerFiles x, int inode, int left) {
        for (int at = 0; at < 100000 && x.count(0) > left; at += 128) {
            x.fill(inode, at, 128, 1);
        }
        due("blocks that are free", x.count(0), left);
    }

    static LedgerFiles dark(int blocks, int buffer, int group) {
        LedgerFiles x = mounted(blocks, buffer, group);
        x.crash();
        return x;
    }
}
