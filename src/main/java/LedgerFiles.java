import java.util.Arrays;
import java.util.NoSuchElementException;

public final class LedgerFiles {
    public static final int NONE = -1;

    private static final int BLOCK = 128;
    private static final int FIRST_FREE = 61;
    private static final int USED_BLOCKS = 43;
    private static final int USED_INODES = 44;
    private static final int INODE_BLOCKS = 45;
    private static final int INODES = 64;
    private static final int INODE_BYTES = 32;
    private static final int ENTRIES = 40;
    private static final int MAGIC = 1414874188;
    private static final int ROOT = 1;
    private static final int FILE = 1;
    private static final int DIRECTORY = 2;
    private static final int AT_LINKS = 1;
    private static final int AT_SIZE = 4;
    private static final int AT_MARK = 8;
    private static final int AT_BLOCKS = 12;
    private static final int AT_FIRST = 28;
    private static final int AT_SECOND = 30;
    private static final int DIRECT = 8;
    private static final int PER_TABLE = 64;
    private static final int PLACES = 4168;
    private static final int SLOT = 16;
    private static final int SLOTS = 8;
    private static final int LIMIT = 400000;
    private static final int FILLED = 2000;
    private static final int TAPE = 1024;
    private static final int HANDLES = 32;
    private static final int MOST_HOLDS = 100;
    private static final int MOST_LINKS = 255;
    private static final int MOST_TABLES = 32;
    private static final int STEPS = 1000000;

    private static final int NO_NAME = -1;
    private static final int IS_THERE = -2;
    private static final int NO_DIRECTORY = -3;
    private static final int IS_DIRECTORY = -4;
    private static final int NOT_EMPTY = -5;
    private static final int NO_PATH = -6;
    private static final int NO_BLOCKS = -7;
    private static final int NO_INODE_FREE = -8;
    private static final int CANNOT_BE = -9;
    private static final int TOO_FAR = -10;
    private static final int NO_INODE = -11;
    private static final int TOO_MANY = -12;
    private static final int NO_HANDLE = -13;

    private final byte[] tape = new byte[TAPE];
    private int fed;
    private boolean mounted;
    private final Disk disk;
    private final Buffer buffer;
    private final Log log;
    private final Queue queue;
    private final View view;
    private final Nodes nodes;
    private final Holders holders;
    private final Folders folders;
    private final Files files;
    private final Checker checker;
    private final Path path = new Path();
    private final Path second = new Path();
    private final byte[] pattern = new byte[FILLED];
    private final int[] walkDirectory = new int[INODES + 1];
    private final int[] walkSlot = new int[INODES + 1];

    public LedgerFiles(int blocks, int buffer, int group) {
        disk = new Disk(Math.min(1024, Math.max(128, blocks)));
        this.buffer = new Buffer(disk, Math.min(64, Math.max(4, buffer)));
        log = new Log(disk, this.buffer);
        queue = new Queue(log, disk.blocks, Math.min(16, Math.max(1, group)));
        view = new View(disk, this.buffer, log, queue);
        holders = new Holders();
        nodes = new Nodes(view, queue, holders);
        folders = new Folders(view, nodes, tape);
        files = new Files(view, nodes);
        checker = new Checker(view, nodes, holders, disk.blocks);
    }

    // ---- the tape

    public int feed(int a, int b, int c, int d, int e) {
        if (fed + 20 > TAPE) {
            return NONE;
        }
        feedInt(a);
        feedInt(b);
        feedInt(c);
        feedInt(d);
        feedInt(e);
        return fed;
    }

    private void feedInt(int v) {
        for (int shift = 24; shift >= 0 && fed < TAPE; shift -= 8) {
            tape[fed] = (byte) (v >> shift);
            fed++;
        }
    }

    public int back(int n) {
        if (n < 0 || n > fed) {
            return NONE;
        }
        fed -= n;
        return fed;
    }

    // The bytes stay readable behind it: only a feed() writes over them.
    private int useTape() {
        int used = fed;
        fed = 0;
        return used;
    }

    // ---- the whole

    private void needMounted() {
        if (!mounted || !disk.on) {
            throw new IllegalStateException("not mounted");
        }
    }

    private void needUnmounted() {
        if (mounted || !disk.on) {
            throw new IllegalStateException("mounted, or without power");
        }
    }

    public int format() throws IllegalStateException, UnsupportedOperationException {
        needUnmounted();
        byte[] row = view.scratch;
        Arrays.fill(row, (byte) 0);
        buffer.place(0, row);
        buffer.settle();
        log.startAnew();
        for (int b = USED_BLOCKS; b < FIRST_FREE; b++) {
            formatRow(b, row);
            buffer.place(b, row);
        }
        buffer.settle();
        headRow(row);
        buffer.place(0, row);
        buffer.settle();
        return disk.blocks - FIRST_FREE;
    }

    private void formatRow(int b, byte[] row) {
        Arrays.fill(row, (byte) 0);
        if (b == USED_BLOCKS) {
            for (int k = 0; k < BLOCK * 8; k++) {
                if (k < FIRST_FREE || k >= disk.blocks) {
                    row[k / 8] |= (byte) (1 << k % 8);
                }
            }
        } else if (b == USED_INODES) {
            row[0] = 1;
        } else if (b == INODE_BLOCKS) {
            row[0] = DIRECTORY;
            row[AT_LINKS] = 1;
        }
    }

    private void headRow(byte[] row) {
        Arrays.fill(row, (byte) 0);
        Disk.setFour(row, 0, MAGIC);
        Disk.setTwo(row, 4, disk.blocks);
        row[6] = ENTRIES;
        row[7] = INODES;
    }

    public int mount() throws IllegalStateException, UnsupportedOperationException, IllegalArgumentException {
        needUnmounted();
        headRow(view.scratch);
        if (!Disk.same(view.scratch, disk.row(0))) {
            throw new IllegalArgumentException("no file system");
        }
        view.reset();
        holders.reset();
        int entries = log.recover();
        log.applyAll();
        commitLost(true);
        mounted = true;
        return entries;
    }

    public void unmount() throws IllegalStateException, UnsupportedOperationException {
        needMounted();
        if (view.group) {
            dropGroup();
            commitLost(false);
        }
        commitLost(true);
        queue.flushAll();
        log.applyAll();
        buffer.settle();
        mounted = false;
    }

    private void commitLost(boolean heldToo) {
        for (int inode = ROOT; inode <= INODES; inode++) {
            if (nodes.isLost(inode) && (heldToo || holders.times(inode) == 0)) {
                nodes.goes(inode);
            }
        }
        view.finish();
    }

    private void dropGroup() {
        view.discard();
        view.group = false;
        for (int inode = ROOT; inode <= INODES; inode++) {
            int kind = nodes.kind(inode);
            if (kind == 0) {
                holders.holds[inode] = 0;
            }
            if (kind != FILE) {
                holders.freeHandlesOn(inode);
            }
        }
    }

    // ---- names: the path is the tape

    // The tape is a path, a byte 0, another path.
    private boolean splitTape(int used) {
        int zero = 0;
        while (zero < used && tape[zero] != 0) {
            zero++;
        }
        return zero < used && path.parse(tape, 0, zero) && second.parse(tape, zero + 1, used);
    }

    // What stands in the way of a new inode with a name in a directory, 0 if nothing.
    private int faultOfNew(int directory) {
        if (nodes.lowestFree() == NONE) {
            return NO_INODE_FREE;
        }
        return folders.wants(directory) > view.available() ? NO_BLOCKS : 0;
    }

    public int make(boolean directory) throws IllegalStateException, UnsupportedOperationException {
        int used = useTape();
        needMounted();
        if (!path.parse(tape, 0, used)) {
            return NO_PATH;
        }
        if (path.depth == 0) {
            return IS_THERE;
        }
        int parent = folders.walk(path, path.depth - 1);
        if (parent < 0) {
            return parent;
        }
        if (folders.slotOf(parent, path, path.depth - 1) != NONE) {
            return IS_THERE;
        }
        int fault = faultOfNew(parent);
        if (fault < 0) {
            return fault;
        }
        int inode = nodes.create(directory ? DIRECTORY : FILE);
        folders.addName(parent, path, inode);
        view.finish();
        return inode;
    }

    // Of remove() and clear(): the inode that the tape means, or what is wrong.
    private int inodeBelowRoot(int used) {
        if (!path.parse(tape, 0, used)) {
            return NO_PATH;
        }
        return path.depth == 0 ? CANNOT_BE : folders.walk(path, path.depth);
    }

    public int remove() throws IllegalStateException, UnsupportedOperationException {
        int used = useTape();
        needMounted();
        int inode = inodeBelowRoot(used);
        if (inode < 0) {
            return inode;
        }
        if (folders.names(inode) > 0) {
            return NOT_EMPTY;
        }
        int parent = folders.walk(path, path.depth - 1);
        folders.wipe(parent, folders.slotOf(parent, path, path.depth - 1));
        nodes.loseName(inode);
        view.finish();
        return 0;
    }

    public int rename() throws IllegalStateException, UnsupportedOperationException {
        int used = useTape();
        needMounted();
        if (!splitTape(used)) {
            return NO_PATH;
        }
        int inode = folders.walk(path, path.depth);
        if (inode < 0) {
            return inode;
        }
        if (path.depth == 0 || second.depth == 0 || second.isBelow(path, tape)) {
            return CANNOT_BE;
        }
        int target = folders.walk(second, second.depth - 1);
        if (target < 0) {
            return target;
        }
        int parent = folders.walk(path, path.depth - 1);
        int slot = folders.slotOf(parent, path, path.depth - 1);
        int targetSlot = folders.slotOf(target, second, second.depth - 1);
        if (targetSlot == NONE) {
            if (target != parent && folders.wants(target) > view.available()) {
                return NO_BLOCKS;
            }
            folders.wipe(parent, slot);
            folders.addName(target, second, inode);
            view.finish();
            return 0;
        }
        int old = folders.inodeAt(target, targetSlot);
        int fault = old == inode ? 0 : faultOfReplacing(inode, old);
        if (old == inode || fault < 0) {
            return fault;
        }
        folders.point(target, targetSlot, inode);
        folders.wipe(parent, slot);
        nodes.loseName(old);
        view.finish();
        return 0;
    }

    private int faultOfReplacing(int inode, int old) {
        boolean directory = nodes.kind(inode) == DIRECTORY;
        boolean oldDirectory = nodes.kind(old) == DIRECTORY;
        if (directory && !oldDirectory) {
            return NO_DIRECTORY;
        }
        if (!directory && oldDirectory) {
            return IS_DIRECTORY;
        }
        return folders.names(old) > 0 ? NOT_EMPTY : 0;
    }

    // Of link() and copy(): the file that the first path means, if the second one can be its name; or what is wrong.
    private int fileForNewName(int used) {
        if (!splitTape(used)) {
            return NO_PATH;
        }
        int inode = folders.walk(path, path.depth);
        if (inode < 0) {
            return inode;
        }
        if (nodes.kind(inode) == DIRECTORY) {
            return IS_DIRECTORY;
        }
        if (second.depth == 0) {
            return CANNOT_BE;
        }
        int target = folders.walk(second, second.depth - 1);
        if (target < 0) {
            return target;
        }
        return folders.slotOf(target, second, second.depth - 1) != NONE ? IS_THERE : inode;
    }

    public int link() throws IllegalStateException, UnsupportedOperationException {
        int used = useTape();
        needMounted();
        int inode = fileForNewName(used);
        if (inode < 0) {
            return inode;
        }
        int links = nodes.links(inode);
        if (links >= MOST_LINKS) {
            return CANNOT_BE;
        }
        int target = folders.walk(second, second.depth - 1);
        if (folders.wants(target) > view.available()) {
            return NO_BLOCKS;
        }
        nodes.setLinks(inode, links + 1);
        folders.addName(target, second, inode);
        view.finish();
        return links + 1;
    }

    // The names go in this very method, by rows of its own in place of recursion: so calls stay less deep.
    public int clear() throws IllegalStateException, UnsupportedOperationException {
        int used = useTape();
        needMounted();
        int top = inodeBelowRoot(used);
        if (top < 0) {
            return top;
        }
        walkDirectory[0] = folders.walk(path, path.depth - 1);
        walkSlot[0] = folders.slotOf(walkDirectory[0], path, path.depth - 1);
        int depth = 0;
        int names = 0;
        boolean emptied = false;
        for (int step = 0; step < STEPS; step++) {
            if (depth > 0 && walkSlot[depth] >= folders.slots(walkDirectory[depth])) {
                depth--;
                emptied = true;
            }
            int inode = folders.inodeAt(walkDirectory[depth], walkSlot[depth]);
            if (inode != 0 && !emptied && nodes.kind(inode) == DIRECTORY && depth < INODES) {
                depth++;
                walkDirectory[depth] = inode;
                walkSlot[depth] = 0;
                continue;
            }
            emptied = false;
            if (inode != 0) {
                folders.wipe(walkDirectory[depth], walkSlot[depth]);
                nodes.loseName(inode);
                names++;
            }
            if (depth == 0) {
                break;
            }
            walkSlot[depth]++;
        }
        if (!view.group && view.trim(true) > ENTRIES) {
            view.discard();
            return TOO_MANY;
        }
        view.finish();
        return names;
    }

    public int copy() throws IllegalStateException, UnsupportedOperationException {
        int used = useTape();
        needMounted();
        int inode = fileForNewName(used);
        if (inode < 0) {
            return inode;
        }
        int tables = nodes.tablesOfCopy(inode);
        if (tables > MOST_TABLES) {
            return TOO_MANY;
        }
        if (nodes.lowestFree() == NONE) {
            return NO_INODE_FREE;
        }
        int target = folders.walk(second, second.depth - 1);
        if (folders.wants(target) + nodes.found + tables > view.available()) {
            return NO_BLOCKS;
        }
        int made = nodes.create(FILE);
        folders.addName(target, second, made);
        files.fillCopy(inode, made);
        view.finish();
        return made;
    }

    public int find() throws IllegalStateException {
        int used = useTape();
        needMounted();
        return path.parse(tape, 0, used) ? folders.walk(path, path.depth) : NO_PATH;
    }

    // ---- files, by inodes

    public int write(int inode, int at) throws IllegalStateException, UnsupportedOperationException {
        int used = useTape();
        needMounted();
        int fault = nodes.faultOfFile(inode);
        return fault < 0 ? fault : files.store(inode, at, tape, used);
    }

    public int fill(int inode, int at, int n, int seed)
            throws IllegalStateException, UnsupportedOperationException, IllegalArgumentException {
        needMounted();
        if (n < 0 || n > FILLED) {
            throw new IllegalArgumentException("n is not 0 .. 2000");
        }
        int fault = nodes.faultOfFile(inode);
        if (fault < 0) {
            return fault;
        }
        for (int i = 0; i < n; i++) {
            pattern[i] = (byte) (seed + i * i + (i >> 5));
        }
        return files.store(inode, at, pattern, n);
    }

    public int truncate(int inode, int size) throws IllegalStateException, UnsupportedOperationException {
        needMounted();
        int fault = nodes.faultOfFile(inode);
        if (fault < 0) {
            return fault;
        }
        if (size < 0 || size > LIMIT) {
            return TOO_FAR;
        }
        int before = nodes.size(inode);
        nodes.resize(inode, size);
        if (size < before) {
            files.blank(inode, size, Nodes.blocksFor(size) * BLOCK);
        }
        view.finish();
        return 0;
    }

    public int mark(int inode, int v) throws IllegalStateException, UnsupportedOperationException {
        needMounted();
        if (nodes.kind(inode) == 0) {
            return NO_INODE;
        }
        nodes.setMark(inode, v);
        view.finish();
        return 0;
    }

    public int punch(int inode, int at, int n) throws IllegalStateException, UnsupportedOperationException {
        needMounted();
        int fault = nodes.faultOfFile(inode);
        if (fault < 0) {
            return fault;
        }
        if (at < 0 || n < 0 || (long) at + n > LIMIT) {
            return TOO_FAR;
        }
        int end = at + n;
        int from = Nodes.blocksFor(at);
        int to = end / BLOCK;
        if (nodes.tablesTelling(inode, from, to) > MOST_TABLES) {
            return TOO_MANY;
        }
        int holes = nodes.cutBlocks(inode, from, to, PLACES);
        int size = nodes.size(inode);
        int edge = Math.min(end, from * BLOCK);
        files.blank(inode, at, Math.min(edge, size));
        if (to * BLOCK >= edge) {
            files.blank(inode, to * BLOCK, Math.min(end, size));
        }
        view.finish();
        return holes;
    }

    public int hold(int inode) throws IllegalStateException {
        needMounted();
        if (nodes.kind(inode) == 0) {
            return NO_INODE;
        }
        if (holders.holds[inode] >= MOST_HOLDS) {
            return CANNOT_BE;
        }
        holders.holds[inode]++;
        return holders.holds[inode];
    }

    public int release(int inode) throws IllegalStateException, UnsupportedOperationException {
        needMounted();
        if (nodes.kind(inode) == 0) {
            return NO_INODE;
        }
        if (holders.holds[inode] == 0) {
            return CANNOT_BE;
        }
        holders.holds[inode]--;
        int left = holders.holds[inode];
        goIfForsaken(inode);
        return left;
    }

    private void goIfForsaken(int inode) {
        if (nodes.isLost(inode) && holders.times(inode) == 0) {
            nodes.goes(inode);
            view.finish();
        }
    }

    public int read(int inode, int at) throws IllegalStateException {
        needMounted();
        return nodes.kind(inode) == FILE ? files.byteOf(inode, at) : NONE;
    }

    public int about(int inode, int what) throws IllegalStateException, IllegalArgumentException {
        needMounted();
        if (what < 0 || what > 6) {
            throw new IllegalArgumentException("what is not 0 .. 6");
        }
        int kind = nodes.kind(inode);
        if (kind == 0) {
            return NO_INODE;
        }
        switch (what) {
            case 0:
                return kind;
            case 1:
                return nodes.size(inode);
            case 2:
                return nodes.markOf(inode);
            case 3:
                return nodes.blocksAndTables(inode);
            case 4:
                return folders.names(inode);
            case 5:
                return nodes.links(inode);
            default:
                return holders.times(inode);
        }
    }

    public int where(int inode, int k) throws IllegalStateException, IllegalArgumentException {
        needMounted();
        if (k < 0 || k >= PLACES) {
            throw new IllegalArgumentException("k is not 0 .. 4167");
        }
        if (nodes.kind(inode) == 0) {
            return NO_INODE;
        }
        return k < Nodes.blocksFor(nodes.size(inode)) ? nodes.reach(inode, k, 0) : 0;
    }

    public int entry(int directory, int k) throws IllegalStateException, NoSuchElementException {
        needMounted();
        int slot = folders.slotOfName(directory, k);
        if (slot == NONE) {
            throw new NoSuchElementException("no such name");
        }
        return folders.inodeAt(directory, slot);
    }

    public int letter(int directory, int k, int i) throws IllegalStateException, NoSuchElementException {
        needMounted();
        int slot = folders.slotOfName(directory, k);
        if (slot == NONE || i < 0) {
            throw new NoSuchElementException("no such name or byte");
        }
        return folders.letterAt(directory, slot, i);
    }

    // ---- handles

    public int open(int way) throws IllegalStateException, UnsupportedOperationException, IllegalArgumentException {
        int used = useTape();
        needMounted();
        boolean emptied = (way & 8) != 0;
        if (way < 0 || way > 15 || (way & 3) == 3 || emptied && (way & 3) == 0) {
            throw new IllegalArgumentException("no such way");
        }
        if (!path.parse(tape, 0, used)) {
            return NO_PATH;
        }
        int inode = folders.walk(path, path.depth);
        boolean made = inode == NO_NAME && (way & 4) != 0;
        int parent = made ? folders.walk(path, path.depth - 1) : inode;
        if (parent < 0) {
            return parent;
        }
        if (!made && nodes.kind(inode) == DIRECTORY) {
            return IS_DIRECTORY;
        }
        int handle = holders.lowestFree();
        if (handle == NONE) {
            return CANNOT_BE;
        }
        if (made) {
            int fault = faultOfNew(parent);
            if (fault < 0) {
                return fault;
            }
            inode = nodes.create(FILE);
            folders.addName(parent, path, inode);
        } else if (emptied) {
            nodes.resize(inode, 0);
        }
        holders.grip(handle, inode, way & 3);
        view.finish();
        return handle;
    }

    public int close(int handle) throws IllegalStateException, UnsupportedOperationException {
        needMounted();
        if (!holders.isOpen(handle)) {
            return NO_HANDLE;
        }
        int inode = holders.inodes[handle];
        holders.inodes[handle] = 0;
        goIfForsaken(inode);
        return 0;
    }

    public int put(int handle) throws IllegalStateException, UnsupportedOperationException {
        int used = useTape();
        needMounted();
        if (!holders.isOpen(handle)) {
            return NO_HANDLE;
        }
        if (holders.ways[handle] == 0) {
            return CANNOT_BE;
        }
        int inode = holders.inodes[handle];
        int at = holders.ways[handle] == 2 ? nodes.size(inode) : holders.places[handle];
        int stored = files.store(inode, at, tape, used);
        if (stored > 0) {
            holders.places[handle] = at + stored;
        }
        return stored;
    }

    public int get(int handle) throws IllegalStateException {
        needMounted();
        if (!holders.isOpen(handle)) {
            return NO_HANDLE;
        }
        int got = files.byteOf(holders.inodes[handle], holders.places[handle]);
        if (got != NONE) {
            holders.places[handle]++;
        }
        return got;
    }

    public int seek(int handle, int at) throws IllegalStateException {
        needMounted();
        if (!holders.isOpen(handle)) {
            return NO_HANDLE;
        }
        if (at < 0 || at > LIMIT) {
            return TOO_FAR;
        }
        int before = holders.places[handle];
        holders.places[handle] = at;
        return before;
    }

    public int look(int handle, int what) throws IllegalStateException, IllegalArgumentException {
        needMounted();
        if (what < 0 || what > 2) {
            throw new IllegalArgumentException("what is not 0 .. 2");
        }
        if (!holders.isOpen(handle)) {
            return NO_HANDLE;
        }
        switch (what) {
            case 0:
                return holders.inodes[handle];
            case 1:
                return holders.places[handle];
            default:
                return holders.ways[handle];
        }
    }

    // ---- groups

    public boolean begin() throws IllegalStateException {
        needMounted();
        if (view.group) {
            return false;
        }
        view.group = true;
        return true;
    }

    public int end() throws IllegalStateException, UnsupportedOperationException {
        needMounted();
        if (!view.group) {
            return CANNOT_BE;
        }
        int blocks = view.trim(true);
        if (blocks > ENTRIES) {
            dropGroup();
            commitLost(false);
            return TOO_MANY;
        }
        view.group = false;
        view.finish();
        return blocks;
    }

    public int undo() throws IllegalStateException, UnsupportedOperationException {
        needMounted();
        if (!view.group) {
            return CANNOT_BE;
        }
        dropGroup();
        commitLost(false);
        return 0;
    }

    // ---- what makes it last

    public int flush() throws IllegalStateException, UnsupportedOperationException {
        needMounted();
        return queue.flushAll();
    }

    public int sync(int inode) throws IllegalStateException, UnsupportedOperationException {
        needMounted();
        int fault = nodes.faultOfFile(inode);
        if (fault < 0) {
            return fault;
        }
        nodes.gather(inode);
        int written = 0;
        int b = buffer.nextAbove(NONE);
        for (int n = buffer.held; n > 0 && b != NONE; n--) {
            if (nodes.hasGathered(b)) {
                buffer.writeOut(b);
                written++;
            }
            b = buffer.nextAbove(b);
        }
        disk.syncAll();
        return written;
    }

    public int apply() throws IllegalStateException, UnsupportedOperationException {
        needMounted();
        queue.flushAll();
        int entries = log.entries;
        log.applyAll();
        return entries;
    }

    // ---- the power

    private void needPower() {
        if (!disk.on) {
            throw new IllegalStateException("without power");
        }
    }

    public void power(int steps) throws IllegalStateException, IllegalArgumentException {
        needPower();
        if (steps < NONE) {
            throw new IllegalArgumentException("steps is below -1");
        }
        disk.left = steps;
    }

    public void crash() throws IllegalStateException {
        needPower();
        disk.goDark();
    }

    public int restart(long x) throws IllegalStateException {
        if (disk.on) {
            throw new IllegalStateException("the power is on");
        }
        mounted = false;
        buffer.forget();
        return disk.wake(x);
    }

    // ---- what can be seen

    private void needByte(int block, int i) {
        if (block < 0 || block >= disk.blocks || i < 0 || i >= BLOCK) {
            throw new NoSuchElementException("no such block or byte");
        }
    }

    public int byteAt(int block, int i) throws NoSuchElementException {
        needByte(block, i);
        return disk.row(block)[i] & 255;
    }

    public int waiting(int block) throws NoSuchElementException {
        needByte(block, 0);
        return disk.waits[block];
    }

    public int seen(int block, int i) throws IllegalStateException, NoSuchElementException {
        needMounted();
        needByte(block, i);
        return view.see(block)[i] & 255;
    }

    public long tree(boolean data) throws IllegalStateException {
        needMounted();
        long h = 17;
        int depth = 0;
        walkDirectory[0] = ROOT;
        walkSlot[0] = 0;
        for (int step = 0; depth >= 0 && step < STEPS; step++) {
            int directory = walkDirectory[depth];
            int slot = walkSlot[depth];
            if (slot >= folders.slots(directory)) {
                h = h * 31 + 3;
                depth--;
                continue;
            }
            walkSlot[depth]++;
            int inode = folders.inodeAt(directory, slot);
            if (inode == 0) {
                continue;
            }
            int kind = nodes.kind(inode);
            h = folders.hashName(h, directory, slot) + kind;
            h = h * 31 + nodes.size(inode);
            h = h * 31 + nodes.markOf(inode);
            if (kind == DIRECTORY && depth < INODES) {
                depth++;
                walkDirectory[depth] = inode;
                walkSlot[depth] = 0;
            } else if (kind == FILE && data) {
                h = files.hashBytes(h, inode);
            }
        }
        return h;
    }

    public int check() throws IllegalStateException {
        needMounted();
        return checker.faults();
    }

    public int count(int what) throws IllegalArgumentException {
        if (what < 0 || what > 17) {
            throw new IllegalArgumentException("what is not 0 .. 17");
        }
        if (what <= 5 || what >= 15) {
            return mounted && disk.on ? countMounted(what) : 0;
        }
        switch (what) {
            case 6:
                return disk.on ? buffer.held : 0;
            case 7:
                return disk.held;
            case 8:
                return disk.writes;
            case 9:
                return disk.syncs;
            case 10:
                return disk.left;
            case 11:
                return buffer.pushedOut;
            case 12:
                return fed;
            case 13:
                return mounted && disk.on ? 1 : 0;
            default:
                return disk.on ? 1 : 0;
        }
    }

    private int countMounted(int what) {
        switch (what) {
            case 0:
                return view.freeBlocks();
            case 1:
                return nodes.freeInodes();
            case 2:
                return queue.restCount;
            case 3:
                return queue.held;
            case 4:
                return log.entries;
            case 5:
                return log.turn;
            case 15:
                return nodes.lostInodes();
            case 16:
                return view.group ? 1 : 0;
            default:
                return holders.openHandles();
        }
    }

    // The blocks, what is synced of them and the values that wait, and the power.
    private static final class Disk {
        private static final int MOST_WAITING = 256;
        final int blocks;
        final int[] waits;
        final byte[][] synced;
        final byte[][] values = new byte[MOST_WAITING][BLOCK];
        final int[] latest;
        private final int[] blockOf = new int[MOST_WAITING];
        private int first;
        int held;
        boolean on = true;
        int left = NONE;
        int writes;
        int syncs;

        Disk(int blocks) {
            this.blocks = blocks;
            waits = new int[blocks];
            synced = new byte[blocks][BLOCK];
            latest = new int[blocks];
            Arrays.fill(latest, NONE);
        }

        static int two(byte[] row, int at) {
            return at < 0 || at + 1 >= row.length ? 0 : (row[at] & 255) | (row[at + 1] & 255) << 8;
        }

        static int four(byte[] row, int at) {
            return two(row, at) | two(row, at + 2) << 16;
        }

        static void setTwo(byte[] row, int at, int v) {
            if (at >= 0 && at + 1 < row.length) {
                row[at] = (byte) v;
                row[at + 1] = (byte) (v >> 8);
            }
        }

        static void setFour(byte[] row, int at, int v) {
            setTwo(row, at, v);
            setTwo(row, at + 2, v >> 16);
        }

        static boolean same(byte[] a, byte[] b) {
            for (int i = 0; i < BLOCK; i++) {
                if (a[i] != b[i]) {
                    return false;
                }
            }
            return true;
        }

        byte[] row(int b) {
            return latest[b] == NONE ? synced[b] : values[latest[b]];
        }

        void goDark() {
            on = false;
            left = NONE;
        }

        private void step() {
            if (left == 0) {
                left = NONE;
                on = false;
                throw new UnsupportedOperationException("the power failed");
            }
            if (left > 0) {
                left--;
            }
        }

        void writeBlock(int b, byte[] value) {
            step();
            if (held == MOST_WAITING) {
                keepOldest();
            }
            int at = (first + held) % MOST_WAITING;
            System.arraycopy(value, 0, values[at], 0, BLOCK);
            blockOf[at] = b;
            latest[b] = at;
            waits[b]++;
            held++;
            writes++;
        }

        private void keepOldest() {
            int b = blockOf[first];
            System.arraycopy(values[first], 0, synced[b], 0, BLOCK);
            waits[b]--;
            if (waits[b] == 0) {
                latest[b] = NONE;
            }
            first = (first + 1) % MOST_WAITING;
            held--;
        }

        void syncAll() {
            step();
            for (int n = held; n > 0; n--) {
                keepOldest();
            }
            syncs++;
        }

        int wake(long x) {
            int touched = 0;
            for (int b = 0; b < blocks; b++) {
                if (waits[b] > 0) {
                    x = x * 6364136223846793005L + 1442695040888963407L;
                    keepValue(b, (int) ((x >>> 33) % (1 + waits[b])));
                    waits[b] = 0;
                    latest[b] = NONE;
                    touched++;
                }
            }
            held = 0;
            on = true;
            left = NONE;
            return touched;
        }

        private void keepValue(int b, int k) {
            int nth = 0;
            for (int i = 0; i < held && nth < k; i++) {
                int at = (first + i) % MOST_WAITING;
                if (blockOf[at] == b) {
                    nth++;
                    if (nth == k) {
                        System.arraycopy(values[at], 0, synced[b], 0, BLOCK);
                    }
                }
            }
        }
    }

    // Values on their way to the disk, at most one for a block.
    private static final class Buffer {
        private final Disk disk;
        final byte[][] rows;
        final int[] slotOf;
        private final int[] blockOf;
        private final int[] stamps;
        private int stamp;
        int held;
        int pushedOut;

        Buffer(Disk disk, int size) {
            this.disk = disk;
            rows = new byte[size][BLOCK];
            blockOf = new int[size];
            stamps = new int[size];
            slotOf = new int[disk.blocks];
            Arrays.fill(slotOf, NONE);
        }

        void place(int b, byte[] value) {
            int slot = slotOf[b];
            if (slot == NONE) {
                slot = leastStamped();
                if (stamps[slot] > 0) {
                    disk.writeBlock(blockOf[slot], rows[slot]);
                    drop(slot);
                    pushedOut++;
                }
                slotOf[b] = slot;
                blockOf[slot] = b;
                held++;
            }
            System.arraycopy(value, 0, rows[slot], 0, BLOCK);
            stamp++;
            stamps[slot] = stamp;
        }

        // A free slot has stamp 0, so that it is found ahead of the one that was put longest ago.
        private int leastStamped() {
            int least = 0;
            for (int slot = 1; slot < rows.length; slot++) {
                if (stamps[slot] < stamps[least]) {
                    least = slot;
                }
            }
            return least;
        }

        private void drop(int slot) {
            slotOf[blockOf[slot]] = NONE;
            stamps[slot] = 0;
            held--;
        }

        // The lowest block above b that is here, NONE if there is none.
        int nextAbove(int b) {
            int next = NONE;
            for (int slot = 0; slot < rows.length; slot++) {
                if (stamps[slot] > 0 && blockOf[slot] > b && (next == NONE || blockOf[slot] < next)) {
                    next = blockOf[slot];
                }
            }
            return next;
        }

        void writeOut(int b) {
            if (slotOf[b] != NONE) {
                disk.writeBlock(b, rows[slotOf[b]]);
                drop(slotOf[b]);
            }
        }

        void settle() {
            int b = nextAbove(NONE);
            for (int n = held; n > 0 && b != NONE; n--) {
                disk.writeBlock(b, rows[slotOf[b]]);
                drop(slotOf[b]);
                b = nextAbove(b);
            }
            disk.syncAll();
        }

        void forget() {
            Arrays.fill(slotOf, NONE);
            Arrays.fill(stamps, 0);
            held = 0;
        }
    }

    // The entries that stand on the disk, but not yet in their places.
    private static final class Log {
        private static final int HEAD = 1;
        private static final int NUMBERS = 2;
        static final int VALUES = 3;
        private final Disk disk;
        private final Buffer buffer;
        private final int[] blockOf = new int[ENTRIES];
        private final byte[] scratch = new byte[BLOCK];
        final int[] entryOf;
        int entries;
        int turn;

        Log(Disk disk, Buffer buffer) {
            this.disk = disk;
            this.buffer = buffer;
            entryOf = new int[disk.blocks];
            Arrays.fill(entryOf, NONE);
        }

        private void forgetEntries() {
            entries = 0;
            Arrays.fill(entryOf, NONE);
        }

        private void note(int b) {
            if (entries < ENTRIES && b >= 0 && b < entryOf.length) {
                blockOf[entries] = b;
                entryOf[b] = entries;
                entries++;
            }
        }

        private static int mix(int h, byte[] row, int n) {
            for (int i = 0; i < n && i < row.length; i++) {
                h = h * 31 + (row[i] & 255);
            }
            return h;
        }

        // Numbers and values are on the disk whenever their sum is asked for.
        private int sum(byte[] head, int count) {
            int h = mix(7, head, 6);
            h = mix(h, disk.row(NUMBERS), 2 * count);
            for (int k = 0; k < count; k++) {
                h = mix(h, disk.row(VALUES + k), BLOCK);
            }
            return h;
        }

        private byte[] head() {
            Arrays.fill(scratch, (byte) 0);
            Disk.setTwo(scratch, 0, entries);
            Disk.setFour(scratch, 2, turn);
            Disk.setFour(scratch, 6, sum(scratch, entries));
            return scratch;
        }

        private byte[] numbers() {
            Arrays.fill(scratch, (byte) 0);
            for (int k = 0; k < entries; k++) {
                Disk.setTwo(scratch, 2 * k, blockOf[k]);
            }
            return scratch;
        }

        void startAnew() {
            forgetEntries();
            turn = 0;
            buffer.place(HEAD, head());
        }

        int recover() {
            forgetEntries();
            byte[] head = disk.row(HEAD);
            turn = Disk.four(head, 2);
            int count = Disk.two(head, 0);
            if (count >= 1 && count <= ENTRIES && sum(head, count) == Disk.four(head, 6)) {
                for (int k = 0; k < count; k++) {
                    note(Disk.two(disk.row(NUMBERS), 2 * k));
                }
            }
            return entries;
        }

        private int nextAbove(int b) {
            int next = NONE;
            for (int k = 0; k < entries; k++) {
                if (blockOf[k] > b && (next == NONE || blockOf[k] < next)) {
                    next = blockOf[k];
                }
            }
            return next;
        }

        void append(Queue queue) {
            for (int i = 0; i < queue.batched; i++) {
                int from = queue.batch[i];
                buffer.place(VALUES + entries, queue.rows[from]);
                note(queue.blockOf[from]);
            }
            buffer.place(NUMBERS, numbers());
            buffer.settle();
            turn++;
            buffer.place(HEAD, head());
            buffer.settle();
        }

        void applyAll() {
            if (entries == 0) {
                return;
            }
            int b = nextAbove(NONE);
            for (int n = 0; n < entries && b != NONE; n++) {
                buffer.place(b, disk.row(VALUES + entryOf[b]));
                b = nextAbove(b);
            }
            buffer.settle();
            forgetEntries();
            turn++;
            buffer.place(HEAD, head());
            buffer.settle();
        }
    }

    // The changes that are in no log yet, and the blocks that rest for them.
    private static final class Queue {
        private final Log log;
        final byte[][] rows;
        final int[] blockOf;
        final int[] rowOf;
        final int[] batch = new int[ENTRIES];
        int batched;
        private final int[] ends;
        private int used;
        int held;
        final boolean[] rests;
        private final int[] resting;
        int restCount;
        private int restForQueue;

        Queue(Log log, int blocks, int most) {
            this.log = log;
            rows = new byte[most * ENTRIES][BLOCK];
            blockOf = new int[most * ENTRIES];
            ends = new int[most];
            rowOf = new int[blocks];
            Arrays.fill(rowOf, NONE);
            rests = new boolean[blocks];
            resting = new int[blocks];
        }

        void forget() {
            Arrays.fill(rowOf, NONE);
            used = 0;
            held = 0;
            restForQueue = 0;
            wakeForNone();
        }

        boolean isFull() {
            return held == ends.length;
        }

        void addBlock(int b, byte[] value) {
            if (used < rows.length) {
                System.arraycopy(value, 0, rows[used], 0, BLOCK);
                blockOf[used] = b;
                rowOf[b] = used;
                used++;
            }
        }

        // The blocks that were freed in a change rest with it.
        void addChange() {
            if (held < ends.length) {
                ends[held] = used;
                held++;
            }
            restForQueue = restCount;
        }

        void addRest(int b) {
            if (!rests[b] && restCount < resting.length) {
                rests[b] = true;
                resting[restCount] = b;
                restCount++;
            }
        }

        int restingForNone() {
            return restCount - restForQueue;
        }

        void wakeForNone() {
            for (int i = restForQueue; i < restCount; i++) {
                rests[resting[i]] = false;
            }
            restCount = restForQueue;
        }

        private void wakeForQueue() {
            for (int i = 0; i < restForQueue; i++) {
                rests[resting[i]] = false;
            }
            System.arraycopy(resting, restForQueue, resting, 0, restCount - restForQueue);
            restCount -= restForQueue;
            restForQueue = 0;
        }

        // Where a block stands in the batch, or would come.
        private int placeInBatch(int b) {
            int i = 0;
            while (i < batched && blockOf[batch[i]] < b) {
                i++;
            }
            return i;
        }

        private boolean isInBatch(int b) {
            int i = placeInBatch(b);
            return i < batched && blockOf[batch[i]] == b;
        }

        private int newInBatch(int from, int to) {
            int n = 0;
            for (int row = from; row < to; row++) {
                if (!isInBatch(blockOf[row])) {
                    n++;
                }
            }
            return n;
        }

        private void toBatch(int row) {
            int i = placeInBatch(blockOf[row]);
            if (!isInBatch(blockOf[row]) && batched < ENTRIES) {
                System.arraycopy(batch, i, batch, i + 1, batched - i);
                batched++;
            }
            if (i < batched) {
                batch[i] = row;
            }
        }

        // Fills the batch from a change on: the change behind it.
        private int fillBatch(int change) {
            batched = 0;
            int from = change == 0 ? 0 : ends[change - 1];
            while (change < held && batched + newInBatch(from, ends[change]) <= ENTRIES) {
                for (int row = from; row < ends[change]; row++) {
                    toBatch(row);
                }
                from = ends[change];
                change++;
            }
            return change;
        }

        int flushAll() {
            int left = held;
            int next = 0;
            while (next < left) {
                next = Math.max(next + 1, fillBatch(next));
                if (log.entries + batched > ENTRIES) {
                    log.applyAll();
                }
                log.append(this);
            }
            used = 0;
            held = 0;
            Arrays.fill(rowOf, NONE);
            wakeForQueue();
            return left;
        }
    }

    // What the file system sees of the blocks, and what a call or a group has made of them.
    private static final class View {
        private final Disk disk;
        private final Buffer buffer;
        private final Log log;
        private final Queue queue;
        private final byte[][] made;
        private final boolean[] owned;
        private final boolean[] taken;
        private final int[] touched;
        private int touchedCount;
        private final byte[] nowhere = new byte[BLOCK];
        final byte[] scratch = new byte[BLOCK];
        boolean group;

        View(Disk disk, Buffer buffer, Log log, Queue queue) {
            this.disk = disk;
            this.buffer = buffer;
            this.log = log;
            this.queue = queue;
            made = new byte[disk.blocks][BLOCK];
            owned = new boolean[disk.blocks];
            taken = new boolean[disk.blocks];
            touched = new int[disk.blocks];
        }

        void reset() {
            discard();
            queue.forget();
            group = false;
        }

        boolean isBlock(int b) {
            return b >= 0 && b < owned.length;
        }

        // As it was seen ahead of the call, or of the group. (Disk.row() stands here too: so calls stay less deep.)
        private byte[] before(int b) {
            if (queue.rowOf[b] != NONE) {
                return queue.rows[queue.rowOf[b]];
            }
            int from = b;
            if (log.entryOf[b] != NONE) {
                from = Log.VALUES + log.entryOf[b];
            } else if (buffer.slotOf[b] != NONE) {
                return buffer.rows[buffer.slotOf[b]];
            }
            return disk.latest[from] == NONE ? disk.synced[from] : disk.values[disk.latest[from]];
        }

        byte[] see(int b) {
            if (!isBlock(b)) {
                return nowhere;
            }
            return owned[b] ? made[b] : before(b);
        }

        byte[] own(int b) {
            if (!isBlock(b)) {
                return nowhere;
            }
            if (!owned[b]) {
                System.arraycopy(before(b), 0, made[b], 0, BLOCK);
                owned[b] = true;
                touched[touchedCount] = b;
                touchedCount++;
            }
            return made[b];
        }

        private boolean isUsed(int b) {
            return (see(USED_BLOCKS)[b / 8] >> b % 8 & 1) != 0;
        }

        int freeBlocks() {
            byte[] bits = see(USED_BLOCKS);
            int free = 0;
            for (int i = 0; i < BLOCK; i++) {
                free += 8 - Integer.bitCount(bits[i] & 255);
            }
            return free;
        }

        // Blocks that a call may want: those that the open group freed come back only behind it.
        int available() {
            return freeBlocks() - queue.restingForNone();
        }

        // The lowest block that is free and does not rest, NONE if there is none.
        int lowest() {
            byte[] bits = see(USED_BLOCKS);
            for (int b = FIRST_FREE; b < owned.length; b++) {
                if (bits[b / 8] == -1) {
                    b |= 7;
                } else if ((bits[b / 8] >> b % 8 & 1) == 0 && !queue.rests[b]) {
                    return b;
                }
            }
            return NONE;
        }

        void seize(int b, boolean table) {
            if (!isBlock(b)) {
                return;
            }
            own(USED_BLOCKS)[b / 8] |= (byte) (1 << b % 8);
            if (table) {
                Arrays.fill(own(b), (byte) 0);
                taken[b] = true;
            }
        }

        void loosen(int b) {
            if (b >= FIRST_FREE && isBlock(b)) {
                own(USED_BLOCKS)[b / 8] &= (byte) ~(1 << b % 8);
                queue.addRest(b);
            }
        }

        void writeDirectly(int b, byte[] value) {
            if (!isBlock(b)) {
                return;
            }
            if (queue.rowOf[b] != NONE || log.entryOf[b] != NONE) {
                queue.flushAll();
                log.applyAll();
            }
            buffer.place(b, value);
        }

        // Blocks that are free are seen as before; so are, if that is asked, those that are as they were.
        int trim(boolean changedOnly) {
            int kept = 0;
            for (int i = 0; i < touchedCount; i++) {
                int b = touched[i];
                boolean stays = isUsed(b) && (!changedOnly || taken[b] || !Disk.same(made[b], before(b)));
                if (stays) {
                    touched[kept] = b;
                    kept++;
                } else {
                    owned[b] = false;
                    taken[b] = false;
                }
            }
            touchedCount = kept;
            return kept;
        }

        private void disown() {
            for (int i = 0; i < touchedCount; i++) {
                owned[touched[i]] = false;
                taken[touched[i]] = false;
            }
            touchedCount = 0;
        }

        void discard() {
            disown();
            queue.wakeForNone();
        }

        // The end of each call that changes something: in a group nothing is committed.
        void finish() {
            if (group) {
                trim(false);
                return;
            }
            if (trim(true) == 0) {
                discard();
                return;
            }
            for (int i = 0; i < touchedCount; i++) {
                queue.addBlock(touched[i], made[touched[i]]);
            }
            queue.addChange();
            disown();
            if (queue.isFull()) {
                queue.flushAll();
            }
        }
    }

    // Who holds inodes: hold() and the handles.
    private static final class Holders {
        final int[] holds = new int[INODES + 1];
        final int[] inodes = new int[HANDLES];
        final int[] places = new int[HANDLES];
        final int[] ways = new int[HANDLES];

        void reset() {
            Arrays.fill(holds, 0);
            Arrays.fill(inodes, 0);
        }

        boolean isOpen(int handle) {
            return handle >= 0 && handle < HANDLES && inodes[handle] != 0;
        }

        private int handlesOn(int inode) {
            int n = 0;
            for (int h = 0; h < HANDLES; h++) {
                if (inodes[h] == inode) {
                    n++;
                }
            }
            return n;
        }

        int times(int inode) {
            return holds[inode] + handlesOn(inode);
        }

        int openHandles() {
            return HANDLES - handlesOn(0);
        }

        int lowestFree() {
            for (int h = 0; h < HANDLES; h++) {
                if (inodes[h] == 0) {
                    return h;
                }
            }
            return NONE;
        }

        void grip(int handle, int inode, int way) {
            inodes[handle] = inode;
            places[handle] = 0;
            ways[handle] = way;
        }

        void freeHandlesOn(int inode) {
            for (int h = 0; h < HANDLES; h++) {
                if (inodes[h] == inode) {
                    inodes[h] = 0;
                }
            }
        }
    }

    // The inodes, and the blocks and tables that they tell.
    private static final class Nodes {
        private static final int FIRST_END = DIRECT + PER_TABLE;
        private final View view;
        private final Queue queue;
        private final Holders holders;
        final int[] places = new int[PLACES];
        final int[] blocks = new int[PLACES];
        int found;

        Nodes(View view, Queue queue, Holders holders) {
            this.view = view;
            this.queue = queue;
            this.holders = holders;
        }

        static int blocksFor(int size) {
            return (size + BLOCK - 1) / BLOCK;
        }

        private static int home(int inode) {
            return INODE_BLOCKS + (inode - 1) / (BLOCK / INODE_BYTES);
        }

        private static int start(int inode) {
            return (inode - 1) % (BLOCK / INODE_BYTES) * INODE_BYTES;
        }

        int kind(int inode) {
            return inode < ROOT || inode > INODES ? 0 : view.see(home(inode))[start(inode)] & 255;
        }

        int links(int inode) {
            return inode < ROOT || inode > INODES ? 0 : view.see(home(inode))[start(inode) + AT_LINKS] & 255;
        }

        int size(int inode) {
            return Disk.four(view.see(home(inode)), start(inode) + AT_SIZE);
        }

        int markOf(int inode) {
            return Disk.four(view.see(home(inode)), start(inode) + AT_MARK);
        }

        int firstTable(int inode) {
            return Disk.two(view.see(home(inode)), start(inode) + AT_FIRST);
        }

        int secondTable(int inode) {
            return Disk.two(view.see(home(inode)), start(inode) + AT_SECOND);
        }

        int tableOfSecond(int second, int j) {
            return second == 0 ? 0 : Disk.two(view.see(second), 2 * j);
        }

        void setLinks(int inode, int links) {
            view.own(home(inode))[start(inode) + AT_LINKS] = (byte) links;
        }

        void setSize(int inode, int size) {
            Disk.setFour(view.own(home(inode)), start(inode) + AT_SIZE, size);
        }

        void setMark(int inode, int mark) {
            Disk.setFour(view.own(home(inode)), start(inode) + AT_MARK, mark);
        }

        int faultOfFile(int inode) {
            int kind = kind(inode);
            return kind == 0 ? NO_INODE : kind == DIRECTORY ? IS_DIRECTORY : 0;
        }

        boolean isLost(int inode) {
            return kind(inode) != 0 && links(inode) == 0;
        }

        int lowestFree() {
            for (int inode = ROOT; inode <= INODES; inode++) {
                if (kind(inode) == 0) {
                    return inode;
                }
            }
            return NONE;
        }

        int freeInodes() {
            int n = 0;
            for (int inode = ROOT; inode <= INODES; inode++) {
                if (kind(inode) == 0) {
                    n++;
                }
            }
            return n;
        }

        int lostInodes() {
            int n = 0;
            for (int inode = ROOT; inode <= INODES; inode++) {
                if (isLost(inode)) {
                    n++;
                }
            }
            return n;
        }

        int create(int kind) {
            int inode = lowestFree();
            if (inode == NONE) {
                return NONE;
            }
            view.own(USED_INODES)[(inode - 1) / 8] |= (byte) (1 << (inode - 1) % 8);
            view.own(home(inode))[start(inode)] = (byte) kind;
            setLinks(inode, 1);
            return inode;
        }

        void loseName(int inode) {
            setLinks(inode, links(inode) - 1);
            if (links(inode) == 0 && holders.times(inode) == 0) {
                goes(inode);
            }
        }

        void goes(int inode) {
            cutBlocks(inode, 0, blocksFor(size(inode)), 0);
            cutTables(inode, 0);
            view.own(USED_INODES)[(inode - 1) / 8] &= (byte) ~(1 << (inode - 1) % 8);
            Arrays.fill(view.own(home(inode)), start(inode), start(inode) + INODE_BYTES, (byte) 0);
        }

        // How many numbers lead to a block: its own, and those of the tables on the way.
        private static int levels(int place) {
            return place < DIRECT ? 1 : place < FIRST_END ? 2 : 3;
        }

        // Where the number of a level stands, in the inode (level 0) or in a table.
        private static int offset(int place, int level) {
            if (place < DIRECT) {
                return AT_BLOCKS + 2 * place;
            }
            if (place < FIRST_END) {
                return level == 0 ? AT_FIRST : 2 * (place - DIRECT);
            }
            int far = place - FIRST_END;
            return level == 0 ? AT_SECOND : level == 1 ? 2 * (far / PER_TABLE) : 2 * (far % PER_TABLE);
        }

        private static int lastBeside(int place) {
            if (place < DIRECT) {
                return DIRECT - 1;
            }
            return place - (place - DIRECT) % PER_TABLE + PER_TABLE - 1;
        }

        // Where a place's own number stands in the block that has it.
        private static int spot(int inode, int place) {
            return offset(place, levels(place) - 1) + (place < DIRECT ? start(inode) : 0);
        }

        // The block of a place (above 0), the block that has its number (above 1), and so on; 0 if it is a hole.
        int reach(int inode, int place, int above) {
            int b = home(inode);
            int at = start(inode) + offset(place, 0);
            int levels = levels(place) - above;
            for (int level = 0; level < levels && b != 0; level++) {
                b = Disk.two(view.see(b), at);
                at = offset(place, level + 1);
            }
            return b;
        }

        // How many blocks a place wants, tables too.
        int missing(int inode, int place) {
            int above = 0;
            while (above < levels(place) && reach(inode, place, above) == 0) {
                above++;
            }
            return above;
        }

        // Of these missing the tables that no place from before has asked for.
        private static int newTables(int before, int place, int missing) {
            int n = 0;
            if (missing > 1 && (before == NONE || lastBeside(before) != lastBeside(place))) {
                n++;
            }
            if (missing > 2 && before < FIRST_END) {
                n++;
            }
            return n;
        }

        int wanted(int inode, int from, int to) {
            int n = 0;
            int before = NONE;
            for (int place = from; place <= to; place++) {
                int missing = missing(inode, place);
                n += Math.min(missing, 1) + newTables(before, place, missing);
                before = place;
            }
            return n;
        }

        // Makes a block for a place that is a hole, and says whether it was one.
        boolean have(int inode, int place, boolean table) {
            int holder = home(inode);
            int at = start(inode) + offset(place, 0);
            int levels = levels(place);
            boolean hole = false;
            for (int level = 0; level < levels; level++) {
                int b = Disk.two(view.see(holder), at);
                if (b == 0) {
                    b = view.lowest();
                    if (b == NONE) {
                        queue.flushAll();
                        b = view.lowest();
                    }
                    if (b == NONE) {
                        return true;
                    }
                    view.seize(b, table || level < levels - 1);
                    Disk.setTwo(view.own(holder), at, b);
                    hole = true;
                }
                holder = b;
                at = offset(place, level + 1);
            }
            return hole;
        }

        // Finds the places that are no holes, and their blocks.
        void gather(int inode) {
            found = 0;
            int end = blocksFor(size(inode));
            for (int place = 0; place < end && place < PLACES; place++) {
                int holder = reach(inode, place, 1);
                if (holder == 0) {
                    place = lastBeside(place);
                    continue;
                }
                int b = Disk.two(view.see(holder), spot(inode, place));
                if (b != 0) {
                    places[found] = place;
                    blocks[found] = b;
                    found++;
                }
            }
        }

        boolean hasGathered(int b) {
            for (int i = 0; i < found; i++) {
                if (blocks[i] == b) {
                    return true;
                }
            }
            return false;
        }

        int tablesOfCopy(int inode) {
            gather(inode);
            int n = 0;
            for (int i = 0; i < found; i++) {
                n += newTables(i == 0 ? NONE : places[i - 1], places[i], levels(places[i]));
            }
            return n;
        }

        int blocksAndTables(int inode) {
            gather(inode);
            int n = found + (firstTable(inode) == 0 ? 0 : 1);
            int second = secondTable(inode);
            if (second == 0) {
                return n;
            }
            for (int j = 0; j < PER_TABLE; j++) {
                if (tableOfSecond(second, j) != 0) {
                    n++;
                }
            }
            return n + 1;
        }

        // In how many tables numbers of these places (to is the one behind them) are not 0.
        int tablesTelling(int inode, int from, int to) {
            int n = 0;
            int end = Math.min(to, blocksFor(size(inode)));
            for (int place = Math.max(from, DIRECT); place < end; place++) {
                int holder = reach(inode, place, 1);
                if (holder == 0 || Disk.two(view.see(holder), spot(inode, place)) != 0) {
                    n += holder == 0 ? 0 : 1;
                    place = lastBeside(place);
                }
            }
            return n;
        }

        // Whether the table that tells a place stays when only the places below keep do.
        private static boolean tableStays(int place, int keep) {
            return place < DIRECT || keep > place - (place - DIRECT) % PER_TABLE;
        }

        // Frees the blocks of places (to is the one behind them): how many.
        int cutBlocks(int inode, int from, int to, int keep) {
            int n = 0;
            int end = Math.min(to, blocksFor(size(inode)));
            for (int place = from; place < end; place++) {
                int holder = reach(inode, place, 1);
                if (holder == 0) {
                    place = lastBeside(place);
                    continue;
                }
                int b = Disk.two(view.see(holder), spot(inode, place));
                if (b != 0) {
                    view.loosen(b);
                    n++;
                    if (tableStays(place, keep)) {
                        Disk.setTwo(view.own(holder), spot(inode, place), 0);
                    }
                }
            }
            return n;
        }

        private void cutTables(int inode, int keep) {
            int first = firstTable(inode);
            if (first != 0 && keep <= DIRECT) {
                view.loosen(first);
                Disk.setTwo(view.own(home(inode)), start(inode) + AT_FIRST, 0);
            }
            int second = secondTable(inode);
            if (second == 0) {
                return;
            }
            for (int j = 0; j < PER_TABLE; j++) {
                int table = tableOfSecond(second, j);
                if (table != 0 && keep <= FIRST_END + PER_TABLE * j) {
                    view.loosen(table);
                    if (keep > FIRST_END) {
                        Disk.setTwo(view.own(second), 2 * j, 0);
                    }
                }
            }
            if (keep <= FIRST_END) {
                view.loosen(second);
                Disk.setTwo(view.own(home(inode)), start(inode) + AT_SECOND, 0);
            }
        }

        void resize(int inode, int size) {
            int before = size(inode);
            int keep = blocksFor(size);
            if (size < before) {
                cutBlocks(inode, keep, blocksFor(before), keep);
                cutTables(inode, keep);
            }
            if (size != before) {
                setSize(inode, size);
            }
        }
    }

    // The directories: slots with names.
    private static final class Folders {
        private static final int AT_LENGTH = 2;
        private static final int AT_NAME = 3;
        private final View view;
        private final Nodes nodes;
        private final byte[] text;

        Folders(View view, Nodes nodes, byte[] text) {
            this.view = view;
            this.nodes = nodes;
            this.text = text;
        }

        int slots(int directory) {
            return nodes.size(directory) / SLOT;
        }

        private byte[] rowOf(int directory, int slot) {
            return view.see(nodes.reach(directory, slot / SLOTS, 0));
        }

        private byte[] ownRowOf(int directory, int slot) {
            return view.own(nodes.reach(directory, slot / SLOTS, 0));
        }

        private static int startOf(int slot) {
            return slot % SLOTS * SLOT;
        }

        int inodeAt(int directory, int slot) {
            return Disk.two(rowOf(directory, slot), startOf(slot));
        }

        int letterAt(int directory, int slot, int i) {
            byte[] row = rowOf(directory, slot);
            int at = startOf(slot);
            return i < row[at + AT_LENGTH] && i < Path.LONGEST ? row[at + AT_NAME + i] & 255 : NONE;
        }

        long hashName(long h, int directory, int slot) {
            byte[] row = rowOf(directory, slot);
            int at = startOf(slot);
            for (int i = 0; i < row[at + AT_LENGTH] && i < Path.LONGEST; i++) {
                h = h * 31 + (row[at + AT_NAME + i] & 255);
            }
            return h;
        }

        // The slot of name k, NONE if there is none.
        int slotOfName(int directory, int k) {
            if (nodes.kind(directory) != DIRECTORY || k < 0) {
                return NONE;
            }
            int left = k;
            int slots = slots(directory);
            for (int slot = 0; slot < slots; slot++) {
                if (inodeAt(directory, slot) != 0) {
                    if (left == 0) {
                        return slot;
                    }
                    left--;
                }
            }
            return NONE;
        }

        int names(int directory) {
            int n = 0;
            int slots = nodes.kind(directory) == DIRECTORY ? slots(directory) : 0;
            for (int slot = 0; slot < slots; slot++) {
                if (inodeAt(directory, slot) != 0) {
                    n++;
                }
            }
            return n;
        }

        private int freeSlot(int directory) {
            int slots = slots(directory);
            byte[] row = text;
            for (int slot = 0; slot < slots; slot++) {
                if (slot % SLOTS == 0) {
                    row = view.see(nodes.reach(directory, slot / SLOTS, 0));
                }
                if (Disk.two(row, startOf(slot)) == 0) {
                    return slot;
                }
            }
            return NONE;
        }

        private boolean isNamed(byte[] row, int at, Path path, int i) {
            if (Disk.two(row, at) == 0 || row[at + AT_LENGTH] != path.lengths[i]) {
                return false;
            }
            for (int k = 0; k < path.lengths[i]; k++) {
                if (row[at + AT_NAME + k] != text[path.starts[i] + k]) {
                    return false;
                }
            }
            return true;
        }

        // The slot with name i of a path, NONE if there is none.
        int slotOf(int directory, Path path, int i) {
            int slots = slots(directory);
            byte[] row = text;
            for (int slot = 0; slot < slots; slot++) {
                if (slot % SLOTS == 0) {
                    row = view.see(nodes.reach(directory, slot / SLOTS, 0));
                }
                if (isNamed(row, startOf(slot), path, i)) {
                    return slot;
                }
            }
            return NONE;
        }

        // The inode behind so many names of a path: a directory, if the path has more; or what is wrong.
        int walk(Path path, int names) {
            int inode = ROOT;
            for (int i = 0; i < names; i++) {
                if (nodes.kind(inode) != DIRECTORY) {
                    return NO_DIRECTORY;
                }
                int slot = slotOf(inode, path, i);
                if (slot == NONE) {
                    return NO_NAME;
                }
                inode = inodeAt(inode, slot);
            }
            return names < path.depth && nodes.kind(inode) != DIRECTORY ? NO_DIRECTORY : inode;
        }

        // How many blocks one more name wants.
        int wants(int directory) {
            if (freeSlot(directory) != NONE) {
                return 0;
            }
            return nodes.missing(directory, nodes.size(directory) / BLOCK);
        }

        void addName(int directory, Path path, int inode) {
            int slot = freeSlot(directory);
            if (slot == NONE) {
                slot = slots(directory);
                nodes.have(directory, slot / SLOTS, true);
                nodes.setSize(directory, nodes.size(directory) + BLOCK);
            }
            int i = path.depth - 1;
            byte[] row = ownRowOf(directory, slot);
            int at = startOf(slot);
            Disk.setTwo(row, at, inode);
            row[at + AT_LENGTH] = (byte) path.lengths[i];
            System.arraycopy(text, path.starts[i], row, at + AT_NAME, path.lengths[i]);
        }

        void point(int directory, int slot, int inode) {
            Disk.setTwo(ownRowOf(directory, slot), startOf(slot), inode);
        }

        void wipe(int directory, int slot) {
            if (slot < 0) {
                return;
            }
            Arrays.fill(ownRowOf(directory, slot), startOf(slot), startOf(slot) + SLOT, (byte) 0);
        }
    }

    // The bytes of files.
    private static final class Files {
        private final View view;
        private final Nodes nodes;
        private final byte[] row = new byte[BLOCK];
        private final boolean[] fresh = new boolean[FILLED / BLOCK + 2];

        Files(View view, Nodes nodes) {
            this.view = view;
            this.nodes = nodes;
        }

        int store(int inode, int at, byte[] source, int n) {
            if (at < 0 || (long) at + n > LIMIT) {
                return TOO_FAR;
            }
            if (n == 0) {
                return 0;
            }
            int from = at / BLOCK;
            int to = (at + n - 1) / BLOCK;
            int wanted = nodes.wanted(inode, from, to);
            if (wanted > 0 && wanted > view.available()) {
                return NO_BLOCKS;
            }
            for (int place = from; place <= to; place++) {
                fresh[place - from] = nodes.have(inode, place, false);
            }
            for (int place = from; place <= to; place++) {
                int b = nodes.reach(inode, place, 0);
                load(b, fresh[place - from]);
                int start = Math.max(at, place * BLOCK);
                int end = Math.min(at + n, place * BLOCK + BLOCK);
                System.arraycopy(source, start - at, row, start - place * BLOCK, end - start);
                view.writeDirectly(b, row);
            }
            if (at + n > nodes.size(inode)) {
                nodes.setSize(inode, at + n);
            }
            view.finish();
            return n;
        }

        private void load(int b, boolean hole) {
            if (hole) {
                Arrays.fill(row, (byte) 0);
            } else {
                System.arraycopy(view.see(b), 0, row, 0, BLOCK);
            }
        }

        // Bytes from a place on, to the one behind them, in one block, become 0, if there is a block.
        void blank(int inode, int from, int to) {
            int place = from / BLOCK;
            int b = from < to ? nodes.reach(inode, place, 0) : 0;
            if (b != 0) {
                load(b, false);
                Arrays.fill(row, from - place * BLOCK, Math.min(BLOCK, to - place * BLOCK), (byte) 0);
                view.writeDirectly(b, row);
            }
        }

        // The blocks of the first one are those that were gathered.
        void fillCopy(int from, int to) {
            int size = nodes.size(from);
            nodes.setSize(to, size);
            nodes.setMark(to, nodes.markOf(from));
            for (int i = 0; i < nodes.found; i++) {
                nodes.have(to, nodes.places[i], false);
            }
            for (int i = 0; i < nodes.found; i++) {
                load(nodes.blocks[i], false);
                int end = Math.min(BLOCK, size - nodes.places[i] * BLOCK);
                Arrays.fill(row, end, BLOCK, (byte) 0);
                view.writeDirectly(nodes.reach(to, nodes.places[i], 0), row);
            }
        }

        int byteOf(int inode, int at) {
            if (at < 0 || at >= nodes.size(inode)) {
                return NONE;
            }
            int b = nodes.reach(inode, at / BLOCK, 0);
            return b == 0 ? 0 : view.see(b)[at % BLOCK] & 255;
        }

        private static long powerOf31(int n) {
            long result = 1;
            long square = 31;
            for (int e = n; e > 0; e >>= 1) {
                if ((e & 1) != 0) {
                    result *= square;
                }
                square *= square;
            }
            return result;
        }

        // The bytes of holes are 0: each only multiplies.
        long hashBytes(long h, int inode) {
            int size = nodes.size(inode);
            int done = 0;
            nodes.gather(inode);
            for (int i = 0; i < nodes.found; i++) {
                int start = nodes.places[i] * BLOCK;
                h *= powerOf31(start - done);
                done = Math.min(size, start + BLOCK);
                byte[] bytes = view.see(nodes.blocks[i]);
                for (int k = 0; k < done - start; k++) {
                    h = h * 31 + (bytes[k] & 255);
                }
            }
            return h * powerOf31(size - done);
        }
    }

    // A path on the tape, as its names.
    private static final class Path {
        static final int LONGEST = 13;
        private static final int MOST_NAMES = 16;
        private static final int MOST_BYTES = 255;
        final int[] starts = new int[MOST_NAMES];
        final int[] lengths = new int[MOST_NAMES];
        int depth;

        private static boolean isNameByte(int c) {
            return c >= 'a' && c <= 'z' || c >= 'A' && c <= 'Z' || c >= '0' && c <= '9'
                    || c == '.' || c == '_' || c == '-';
        }

        static boolean isName(byte[] bytes, int at, int length) {
            if (length < 1 || length > LONGEST || at < 0 || at + length > bytes.length) {
                return false;
            }
            boolean points = true;
            for (int i = 0; i < length; i++) {
                if (!isNameByte(bytes[at + i])) {
                    return false;
                }
                points = points && bytes[at + i] == '.';
            }
            return !points || length > 2;
        }

        boolean parse(byte[] bytes, int from, int to) {
            depth = 0;
            if (to - from < 1 || to - from > MOST_BYTES || bytes[from] != '/') {
                return false;
            }
            if (to - from == 1) {
                return true;
            }
            int start = from + 1;
            for (int i = start; i <= to; i++) {
                if (i == to || bytes[i] == '/') {
                    if (depth == MOST_NAMES || !isName(bytes, start, i - start)) {
                        return false;
                    }
                    starts[depth] = start;
                    lengths[depth] = i - start;
                    depth++;
                    start = i + 1;
                }
            }
            return true;
        }

        // Whether this path begins with all names of another one and has more.
        boolean isBelow(Path other, byte[] bytes) {
            if (depth <= other.depth) {
                return false;
            }
            for (int i = 0; i < other.depth; i++) {
                if (lengths[i] != other.lengths[i]) {
                    return false;
                }
                for (int k = 0; k < lengths[i]; k++) {
                    if (bytes[starts[i] + k] != bytes[other.starts[i] + k]) {
                        return false;
                    }
                }
            }
            return true;
        }
    }

    // Looks at all that is seen, and counts what is not as it must be.
    private static final class Checker {
        private final View view;
        private final Nodes nodes;
        private final Holders holders;
        private final int[] owners;
        private final int[] names = new int[INODES + 1];
        private int faults;

        Checker(View view, Nodes nodes, Holders holders, int blocks) {
            this.view = view;
            this.nodes = nodes;
            this.holders = holders;
            owners = new int[blocks];
        }

        private void ask(boolean right) {
            if (!right) {
                faults++;
            }
        }

        int faults() {
            faults = 0;
            Arrays.fill(names, 0);
            Arrays.fill(owners, 0);
            Arrays.fill(owners, 0, FIRST_FREE, 1);
            names[ROOT] = 1;
            ask(nodes.kind(ROOT) == DIRECTORY);
            for (int inode = ROOT; inode <= INODES; inode++) {
                lookAtInode(inode);
            }
            lookAtLinks();
            lookAtBits();
            return faults;
        }

        private void lookAtInode(int inode) {
            int kind = nodes.kind(inode);
            ask(kind <= DIRECTORY);
            if (kind == 0) {
                lookAtFree(inode);
                return;
            }
            int size = nodes.size(inode);
            if (size < 0 || size > LIMIT) {
                faults++;
                return;
            }
            lookAtTables(inode);
            nodes.gather(inode);
            for (int i = 0; i < nodes.found; i++) {
                own(nodes.blocks[i]);
            }
            if (kind == DIRECTORY) {
                ask(size % BLOCK == 0 && nodes.found == size / BLOCK);
                for (int i = 0; i < nodes.found; i++) {
                    lookAtSlots(view.see(nodes.blocks[i]));
                }
            }
        }

        private void lookAtFree(int inode) {
            ask(nodes.links(inode) == 0 && nodes.size(inode) == 0 && nodes.markOf(inode) == 0);
            ask(nodes.firstTable(inode) == 0 && nodes.secondTable(inode) == 0);
            for (int place = 0; place < DIRECT; place++) {
                ask(nodes.reach(inode, place, 0) == 0);
            }
        }

        private void own(int b) {
            if (b < FIRST_FREE || b >= owners.length) {
                faults++;
            } else {
                owners[b]++;
            }
        }

        private void lookAtTables(int inode) {
            int first = nodes.firstTable(inode);
            if (first != 0) {
                own(first);
            }
            int second = nodes.secondTable(inode);
            if (second == 0) {
                return;
            }
            own(second);
            for (int j = 0; j < PER_TABLE; j++) {
                int table = nodes.tableOfSecond(second, j);
                if (table != 0) {
                    own(table);
                }
            }
        }

        private void lookAtSlots(byte[] row) {
            for (int at = 0; at + SLOT <= BLOCK; at += SLOT) {
                int inode = Disk.two(row, at);
                int length = inode == 0 ? 0 : row[at + 2];
                ask(inode == 0 || Path.isName(row, at + 3, length));
                ask(inode == 0 || nodes.kind(inode) != 0);
                if (inode != 0 && inode <= INODES) {
                    names[inode]++;
                }
                for (int i = inode == 0 ? 2 : 3 + Math.max(0, length); i < SLOT; i++) {
                    ask(row[at + i] == 0);
                }
            }
        }

        private void lookAtLinks() {
            for (int inode = ROOT; inode <= INODES; inode++) {
                ask(names[inode] == nodes.links(inode));
                ask(!nodes.isLost(inode) || holders.times(inode) > 0);
            }
        }

        private void lookAtBits() {
            byte[] bits = view.see(USED_BLOCKS);
            for (int b = 0; b < BLOCK * 8; b++) {
                int owned = b < owners.length ? owners[b] : 1;
                ask(owned <= 1);
                ask((bits[b / 8] >> b % 8 & 1) == Math.min(owned, 1));
            }
            byte[] inodeBits = view.see(USED_INODES);
            for (int k = 0; k < BLOCK * 8; k++) {
                ask((inodeBits[k / 8] >> k % 8 & 1) == (nodes.kind(k + 1) == 0 ? 0 : 1));
            }
        }
    }
}
