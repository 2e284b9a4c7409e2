import java.util.ArrayList;
import java.util.Arrays;
import java.util.HashSet;
import java.util.LinkedHashMap;
import java.util.List;
import java.util.Map;
import java.util.NoSuchElementException;
import java.util.Set;
import java.util.TreeMap;
import java.util.TreeSet;

/**
 * The document once more, as plainly as Java allows, with no thought for room or depth: whole snapshots of what is
 * seen, sets and maps, recursion. Tests put the same calls to it and to LedgerFiles.
 */
public final class Model {
    private static final int LIMIT = 400000;
    private static final Object CURRENT = new Object();

    private static final class Value {
        final int block;
        final byte[] bytes;

        Value(int block, byte[] bytes) {
            this.block = block;
            this.bytes = bytes.clone();
        }
    }

    /** A number that is not 0 in an inode or in a table, and the first place that it is for. */
    private static final class Told {
        final int holder;
        final int at;
        final int block;
        final int place;
        final boolean table;

        Told(int holder, int at, int block, int place, boolean table) {
            this.holder = holder;
            this.at = at;
            this.block = block;
            this.place = place;
            this.table = table;
        }
    }

    private static final class Fault extends RuntimeException {
        private static final long serialVersionUID = 1L;
        final int number;

        Fault(int number) {
            this.number = number;
        }
    }

    private final int blocks;
    private final int most;
    private final int changes;
    private final byte[][] synced;
    private final List<Value> waiting = new ArrayList<>();
    private boolean on = true;
    private boolean mounted;
    private int left = -1;
    private int writes;
    private int syncs;
    private int outs;
    private final LinkedHashMap<Integer, byte[]> buffer = new LinkedHashMap<>();
    private final List<Value> log = new ArrayList<>();
    private int turn;
    private final List<TreeMap<Integer, byte[]>> queue = new ArrayList<>();
    private final TreeMap<Integer, byte[]> own = new TreeMap<>();
    private final Set<Integer> taken = new HashSet<>();
    private final Map<Integer, Object> rests = new TreeMap<>();
    private byte[][] ahead;
    private boolean group;
    private final int[] holds = new int[65];
    private final int[][] handles = new int[32][];
    private final List<Byte> tape = new ArrayList<>();

    public Model(int blocks, int buffer, int group) {
        this.blocks = Math.max(128, Math.min(1024, blocks));
        most = Math.max(4, Math.min(64, buffer));
        changes = Math.max(1, Math.min(16, group));
        synced = new byte[this.blocks][128];
    }

    // ---- numbers

    private static int number(byte[] row, int at, int n) {
        int v = 0;
        for (int i = n - 1; i >= 0; i--) {
            v = v << 8 | row[at + i] & 255;
        }
        return v;
    }

    private static void setNumber(byte[] row, int at, int n, int v) {
        for (int i = 0; i < n; i++) {
            row[at + i] = (byte) (v >> 8 * i);
        }
    }

    // ---- the disk

    byte[] reads(int b) {
        for (int i = waiting.size() - 1; i >= 0; i--) {
            if (waiting.get(i).block == b) {
                return waiting.get(i).bytes;
            }
        }
        return synced[b];
    }

    private void step() {
        if (left == 0) {
            dark();
            throw new UnsupportedOperationException();
        }
        if (left > 0) {
            left--;
        }
    }

    private void dark() {
        on = false;
        left = -1;
        mounted = false;
        buffer.clear();
    }

    private void diskWrite(int b, byte[] row) {
        step();
        if (waiting.size() == 256) {
            Value v = waiting.remove(0);
            synced[v.block] = v.bytes;
        }
        waiting.add(new Value(b, row));
        writes++;
    }

    private void diskSync() {
        step();
        for (Value v : waiting) {
            synced[v.block] = v.bytes;
        }
        waiting.clear();
        syncs++;
    }

    // ---- the buffer

    private void place(int b, byte[] row) {
        if (!buffer.containsKey(b) && buffer.size() == most) {
            int oldest = buffer.keySet().iterator().next();
            diskWrite(oldest, buffer.get(oldest));
            buffer.remove(oldest);
            outs++;
        }
        buffer.remove(b);
        buffer.put(b, row.clone());
    }

    private void settle() {
        for (int b : new TreeSet<>(buffer.keySet())) {
            diskWrite(b, buffer.get(b));
            buffer.remove(b);
        }
        diskSync();
    }

    // ---- the log and the queue

    private int sum(byte[] head, byte[] numbers, List<byte[]> values) {
        int h = 7;
        for (int i = 0; i < 6; i++) {
            h = h * 31 + (head[i] & 255);
        }
        for (int i = 0; i < 2 * values.size(); i++) {
            h = h * 31 + (numbers[i] & 255);
        }
        for (byte[] value : values) {
            for (byte c : value) {
                h = h * 31 + (c & 255);
            }
        }
        return h;
    }

    private byte[] numbersOfLog() {
        byte[] row = new byte[128];
        for (int k = 0; k < log.size(); k++) {
            setNumber(row, 2 * k, 2, log.get(k).block);
        }
        return row;
    }

    private byte[] headOfLog() {
        byte[] row = new byte[128];
        setNumber(row, 0, 2, log.size());
        setNumber(row, 2, 4, turn);
        List<byte[]> values = new ArrayList<>();
        for (Value v : log) {
            values.add(v.bytes);
        }
        setNumber(row, 6, 4, sum(row, numbersOfLog(), values));
        return row;
    }

    private void applyLog() {
        if (log.isEmpty()) {
            return;
        }
        TreeMap<Integer, byte[]> last = new TreeMap<>();
        for (Value v : log) {
            last.put(v.block, v.bytes);
        }
        for (int b : last.keySet()) {
            place(b, last.get(b));
        }
        settle();
        log.clear();
        turn++;
        place(1, headOfLog());
        settle();
    }

    private int flushQueue() {
        int gone = 0;
        while (!queue.isEmpty()) {
            TreeMap<Integer, byte[]> batch = new TreeMap<>();
            int n = 0;
            while (n < queue.size()) {
                TreeMap<Integer, byte[]> more = new TreeMap<>(batch);
                more.putAll(queue.get(n));
                if (more.size() > 40) {
                    break;
                }
                batch = more;
                n++;
            }
            if (log.size() + batch.size() > 40) {
                applyLog();
            }
            for (Map.Entry<Integer, byte[]> e : batch.entrySet()) {
                place(3 + log.size(), e.getValue());
                log.add(new Value(e.getKey(), e.getValue()));
            }
            place(2, numbersOfLog());
            settle();
            turn++;
            place(1, headOfLog());
            settle();
            for (int i = 0; i < n; i++) {
                TreeMap<Integer, byte[]> change = queue.remove(0);
                rests.values().removeIf(c -> c == change);
                gone++;
            }
        }
        return gone;
    }

    private void direct(int b, byte[] row) {
        boolean known = false;
        for (TreeMap<Integer, byte[]> change : queue) {
            known |= change.containsKey(b);
        }
        for (Value v : log) {
            known |= v.block == b;
        }
        if (known) {
            flushQueue();
            applyLog();
        }
        place(b, row);
    }

    // ---- what is seen

    byte[] see(int b) {
        if (own.containsKey(b)) {
            return own.get(b);
        }
        for (int i = queue.size() - 1; i >= 0; i--) {
            if (queue.get(i).containsKey(b)) {
                return queue.get(i).get(b);
            }
        }
        for (int i = log.size() - 1; i >= 0; i--) {
            if (log.get(i).block == b) {
                return log.get(i).bytes;
            }
        }
        return buffer.containsKey(b) ? buffer.get(b) : reads(b);
    }

    private byte[] mine(int b) {
        if (!own.containsKey(b)) {
            own.put(b, see(b).clone());
        }
        return own.get(b);
    }

    private boolean bit(int row, int k) {
        return (see(row)[k / 8] >> k % 8 & 1) == 1;
    }

    private void setBit(int row, int k, boolean v) {
        byte[] bytes = mine(row);
        bytes[k / 8] = (byte) (v ? bytes[k / 8] | 1 << k % 8 : bytes[k / 8] & ~(1 << k % 8));
    }

    /** Snapshots are of all blocks; only tables are ever compared with them. */
    private void startCall() {
        if (!group) {
            ahead = new byte[blocks][];
            for (int b = 0; b < blocks; b++) {
                ahead[b] = see(b).clone();
            }
        }
    }

    private TreeMap<Integer, byte[]> changeNow() {
        TreeMap<Integer, byte[]> change = new TreeMap<>();
        for (int b : own.keySet()) {
            if (bit(43, b) && (taken.contains(b) || !Arrays.equals(own.get(b), ahead[b]))) {
                change.put(b, own.get(b).clone());
            }
        }
        return change;
    }

    private void forgetOwn() {
        own.clear();
        taken.clear();
        rests.values().removeIf(c -> c == CURRENT);
    }

    private void endCall() {
        if (group) {
            for (int b : new ArrayList<>(own.keySet())) {
                if (!bit(43, b)) {
                    own.remove(b);
                    taken.remove(b);
                }
            }
            return;
        }
        commit(changeNow());
    }

    private void commit(TreeMap<Integer, byte[]> change) {
        if (!change.isEmpty()) {
            queue.add(change);
            rests.replaceAll((b, c) -> c == CURRENT ? change : c);
        }
        forgetOwn();
        if (queue.size() == changes) {
            flushQueue();
        }
    }

    // ---- blocks and inodes

    private void freeBlock(int b) {
        setBit(43, b, false);
        rests.put(b, CURRENT);
    }

    private int takeBlock(boolean table) {
        for (int again = 0; again < 2; again++) {
            for (int b = 61; b < blocks; b++) {
                if (!bit(43, b) && !rests.containsKey(b)) {
                    setBit(43, b, true);
                    if (table) {
                        own.put(b, new byte[128]);
                        taken.add(b);
                    }
                    return b;
                }
            }
            flushQueue();
        }
        throw new AssertionError("the model has no block");
    }

    private int freeCount() {
        int n = 0;
        for (int b = 0; b < blocks; b++) {
            n += bit(43, b) ? 0 : 1;
        }
        return n;
    }

    private int available() {
        int n = freeCount();
        for (Object c : rests.values()) {
            n -= c == CURRENT ? 1 : 0;
        }
        return n;
    }

    private int get(int inode, int at, int n) {
        return number(see(45 + (inode - 1) / 4), (inode - 1) % 4 * 32 + at, n);
    }

    private void set(int inode, int at, int n, int v) {
        setNumber(mine(45 + (inode - 1) / 4), (inode - 1) % 4 * 32 + at, n, v);
    }

    private int kind(int inode) {
        return inode < 1 || inode > 64 ? 0 : get(inode, 0, 1);
    }

    private int held(int inode) {
        int n = holds[inode];
        for (int[] h : handles) {
            n += h != null && h[0] == inode ? 1 : 0;
        }
        return n;
    }

    private List<Told> told(int inode) {
        List<Told> list = new ArrayList<>();
        int home = 45 + (inode - 1) / 4;
        int start = (inode - 1) % 4 * 32;
        for (int k = 0; k < 8; k++) {
            tell(list, home, start + 12 + 2 * k, k, false);
        }
        tellTable(list, tell(list, home, start + 28, 8, true), 8, 1);
        int second = tell(list, home, start + 30, 72, true);
        if (second != 0) {
            for (int j = 0; j < 64; j++) {
                tellTable(list, tell(list, second, 2 * j, 72 + 64 * j, true), 72 + 64 * j, 1);
            }
        }
        return list;
    }

    private int tell(List<Told> list, int holder, int at, int place, boolean table) {
        int b = number(see(holder), at, 2);
        if (b != 0) {
            list.add(new Told(holder, at, b, place, table));
        }
        return b;
    }

    private void tellTable(List<Told> list, int table, int place, int step) {
        if (table != 0) {
            for (int i = 0; i < 64; i++) {
                tell(list, table, 2 * i, place + i * step, false);
            }
        }
    }

    private TreeMap<Integer, Integer> data(int inode) {
        TreeMap<Integer, Integer> map = new TreeMap<>();
        for (Told t : told(inode)) {
            if (!t.table) {
                map.put(t.place, t.block);
            }
        }
        return map;
    }

    private int blockOf(int inode, int place) {
        return data(inode).getOrDefault(place, 0);
    }

    private int hadOrTaken(int holder, int at, boolean table) {
        int b = number(see(holder), at, 2);
        if (b == 0) {
            b = takeBlock(table);
            setNumber(mine(holder), at, 2, b);
        }
        return b;
    }

    private int have(int inode, int place, boolean table) {
        int home = 45 + (inode - 1) / 4;
        int start = (inode - 1) % 4 * 32;
        if (place < 8) {
            return hadOrTaken(home, start + 12 + 2 * place, table);
        }
        if (place < 72) {
            return hadOrTaken(hadOrTaken(home, start + 28, true), 2 * (place - 8), table);
        }
        int second = hadOrTaken(home, start + 30, true);
        return hadOrTaken(hadOrTaken(second, 2 * ((place - 72) / 64), true), 2 * ((place - 72) % 64), table);
    }

    /** Tables by the first place they are for; the second table stands as -1. */
    private static Set<Integer> tablesFor(Set<Integer> places) {
        Set<Integer> tables = new TreeSet<>();
        for (int place : places) {
            if (place >= 8) {
                tables.add(place - (place - 8) % 64);
            }
            if (place >= 72) {
                tables.add(-1);
            }
        }
        return tables;
    }

    private int wanted(int inode, Set<Integer> places) {
        Set<Integer> blocksWanted = new TreeSet<>(places);
        Set<Integer> tablesWanted = tablesFor(places);
        for (Told t : told(inode)) {
            if (!t.table) {
                blocksWanted.remove(t.place);
            } else if (t.place == 72 && t.holder < 61) {
                tablesWanted.remove(-1);
            } else {
                tablesWanted.remove(t.place);
            }
        }
        return blocksWanted.size() + tablesWanted.size();
    }

    private void freeFrom(int inode, int keep) {
        List<Told> all = told(inode);
        Set<Integer> gone = new HashSet<>();
        for (Told t : all) {
            if (t.place >= keep) {
                gone.add(t.block);
            }
        }
        for (Told t : all) {
            if (t.place >= keep && !gone.contains(t.holder)) {
                setNumber(mine(t.holder), t.at, 2, 0);
            }
        }
        for (int b : gone) {
            freeBlock(b);
        }
    }

    private void go(int inode) {
        freeFrom(inode, 0);
        setBit(44, inode - 1, false);
        byte[] row = mine(45 + (inode - 1) / 4);
        Arrays.fill(row, (inode - 1) % 4 * 32, (inode - 1) % 4 * 32 + 32, (byte) 0);
    }

    private void lessName(int inode) {
        set(inode, 1, 1, get(inode, 1, 1) - 1);
        if (get(inode, 1, 1) == 0 && held(inode) == 0) {
            go(inode);
        }
    }

    private int lowestInode() {
        for (int i = 1; i <= 64; i++) {
            if (!bit(44, i - 1)) {
                return i;
            }
        }
        return 0;
    }

    private int newInode(int kind) {
        int inode = lowestInode();
        setBit(44, inode - 1, true);
        set(inode, 0, 1, kind);
        set(inode, 1, 1, 1);
        return inode;
    }

    private boolean lost(int inode) {
        return kind(inode) != 0 && get(inode, 1, 1) == 0;
    }

    // ---- names

    private static final class Slot {
        final int block;
        final int at;
        final int inode;
        final String name;

        Slot(int block, int at, int inode, String name) {
            this.block = block;
            this.at = at;
            this.inode = inode;
            this.name = name;
        }
    }

    private List<Slot> slots(int directory) {
        List<Slot> list = new ArrayList<>();
        if (kind(directory) == 2) {
            for (int b : data(directory).values()) {
                for (int at = 0; at < 128; at += 16) {
                    byte[] row = see(b);
                    StringBuilder name = new StringBuilder();
                    for (int i = 0; i < row[at + 2]; i++) {
                        name.append((char) (row[at + 3 + i] & 255));
                    }
                    list.add(new Slot(b, at, number(row, at, 2), name.toString()));
                }
            }
        }
        return list;
    }

    private List<Slot> names(int directory) {
        List<Slot> list = slots(directory);
        list.removeIf(s -> s.inode == 0);
        return list;
    }

    private Slot named(int directory, String name) {
        for (Slot s : names(directory)) {
            if (s.name.equals(name)) {
                return s;
            }
        }
        return null;
    }

    private String useTape() {
        StringBuilder s = new StringBuilder();
        for (byte b : tape) {
            s.append((char) (b & 255));
        }
        tape.clear();
        return s.toString();
    }

    private static List<String> parsed(String path) {
        if (path.length() > 255 || !path.matches("/|(/[a-zA-Z0-9._-]{1,13}){1,16}")) {
            throw new Fault(-6);
        }
        List<String> list = new ArrayList<>();
        if (!path.equals("/")) {
            list.addAll(Arrays.asList(path.substring(1).split("/")));
        }
        if (list.contains(".") || list.contains("..")) {
            throw new Fault(-6);
        }
        return list;
    }

    private static List<List<String>> parsedTwo(String both) {
        int zero = both.indexOf('\0');
        if (zero < 0) {
            throw new Fault(-6);
        }
        List<List<String>> list = new ArrayList<>();
        list.add(parsed(both.substring(0, zero)));
        list.add(parsed(both.substring(zero + 1)));
        return list;
    }

    private int resolve(List<String> path) {
        int inode = 1;
        for (String name : path) {
            if (kind(inode) != 2) {
                throw new Fault(-3);
            }
            Slot s = named(inode, name);
            if (s == null) {
                throw new Fault(-1);
            }
            inode = s.inode;
        }
        return inode;
    }

    private int parent(List<String> path) {
        int inode = resolve(path.subList(0, path.size() - 1));
        if (kind(inode) != 2) {
            throw new Fault(-3);
        }
        return inode;
    }

    private static String last(List<String> path) {
        return path.get(path.size() - 1);
    }

    private int wantsOfName(int directory) {
        for (Slot s : slots(directory)) {
            if (s.inode == 0) {
                return 0;
            }
        }
        return wanted(directory, new TreeSet<>(List.of(get(directory, 4, 4) / 128)));
    }

    private void addName(int directory, String name, int inode) {
        int block = 0;
        int at = 0;
        for (Slot s : slots(directory)) {
            if (s.inode == 0) {
                block = s.block;
                at = s.at;
                break;
            }
        }
        if (block == 0) {
            block = have(directory, get(directory, 4, 4) / 128, true);
            set(directory, 4, 4, get(directory, 4, 4) + 128);
        }
        byte[] row = mine(block);
        setNumber(row, at, 2, inode);
        row[at + 2] = (byte) name.length();
        for (int i = 0; i < name.length(); i++) {
            row[at + 3 + i] = (byte) name.charAt(i);
        }
    }

    private void wipe(Slot s) {
        Arrays.fill(mine(s.block), s.at, s.at + 16, (byte) 0);
    }

    // ---- what tests ask to choose calls that do something

    boolean isMounted() {
        return mounted && on;
    }

    void pathsBelow(int directory, String path, List<String> into) {
        for (Slot s : names(directory)) {
            into.add(path + "/" + s.name);
            if (into.size() < 200) {
                pathsBelow(s.inode, path + "/" + s.name, into);
            }
        }
    }

    List<Integer> inodesOf(int kind) {
        List<Integer> list = new ArrayList<>();
        for (int i = 1; i <= 64; i++) {
            if (kind(i) == kind) {
                list.add(i);
            }
        }
        return list;
    }

    // ---- the face

    private void needMounted() {
        if (!mounted || !on) {
            throw new IllegalStateException();
        }
        startCall();
    }

    public int feed(int a, int b, int c, int d, int e) {
        if (tape.size() + 20 > 1024) {
            return -1;
        }
        for (int v : new int[] {a, b, c, d, e}) {
            for (int shift = 24; shift >= 0; shift -= 8) {
                tape.add((byte) (v >> shift));
            }
        }
        return tape.size();
    }

    public int back(int n) {
        if (n < 0 || n > tape.size()) {
            return -1;
        }
        for (int i = 0; i < n; i++) {
            tape.remove(tape.size() - 1);
        }
        return tape.size();
    }

    private byte[] block0() {
        byte[] row = new byte[128];
        setNumber(row, 0, 4, 1414874188);
        setNumber(row, 4, 2, blocks);
        row[6] = 40;
        row[7] = 64;
        return row;
    }

    public int format() {
        if (mounted || !on) {
            throw new IllegalStateException();
        }
        place(0, new byte[128]);
        settle();
        log.clear();
        turn = 0;
        place(1, headOfLog());
        byte[] bits = new byte[128];
        for (int k = 0; k < 1024; k++) {
            if (k < 61 || k >= blocks) {
                bits[k / 8] |= (byte) (1 << k % 8);
            }
        }
        place(43, bits);
        byte[] one = new byte[128];
        one[0] = 1;
        place(44, one);
        byte[] root = new byte[128];
        root[0] = 2;
        root[1] = 1;
        place(45, root);
        for (int b = 46; b <= 60; b++) {
            place(b, new byte[128]);
        }
        settle();
        place(0, block0());
        settle();
        return blocks - 61;
    }

    public int mount() {
        if (mounted || !on) {
            throw new IllegalStateException();
        }
        if (!Arrays.equals(reads(0), block0())) {
            throw new IllegalArgumentException();
        }
        group = false;
        queue.clear();
        rests.clear();
        own.clear();
        taken.clear();
        log.clear();
        Arrays.fill(holds, 0);
        Arrays.fill(handles, null);
        int count = number(reads(1), 0, 2);
        turn = number(reads(1), 2, 4);
        int had = 0;
        if (count >= 1 && count <= 40) {
            List<byte[]> values = new ArrayList<>();
            for (int k = 0; k < count; k++) {
                values.add(reads(3 + k));
            }
            if (sum(reads(1), reads(2), values) == number(reads(1), 6, 4)) {
                had = count;
                for (int k = 0; k < count; k++) {
                    log.add(new Value(number(reads(2), 2 * k, 2), values.get(k)));
                }
                applyLog();
            }
        }
        startCall();
        lostGo(true);
        mounted = true;
        return had;
    }

    private void lostGo(boolean all) {
        for (int i = 1; i <= 64; i++) {
            if (lost(i) && (all || held(i) == 0)) {
                go(i);
            }
        }
        endCall();
    }

    public void unmount() {
        needMounted();
        if (group) {
            undo();
            startCall();
        }
        lostGo(true);
        flushQueue();
        applyLog();
        settle();
        mounted = false;
    }

    public int make(boolean directory) {
        String text = useTape();
        needMounted();
        try {
            List<String> path = parsed(text);
            if (path.isEmpty()) {
                return -2;
            }
            int parent = parent(path);
            if (named(parent, last(path)) != null) {
                return -2;
            }
            int inode = makeIn(parent, last(path), directory ? 2 : 1);
            endCall();
            return inode;
        } catch (Fault f) {
            return f.number;
        }
    }

    private int makeIn(int parent, String name, int kind) {
        if (lowestInode() == 0) {
            throw new Fault(-8);
        }
        if (wantsOfName(parent) > available()) {
            throw new Fault(-7);
        }
        int inode = newInode(kind);
        addName(parent, name, inode);
        return inode;
    }

    public int remove() {
        String text = useTape();
        needMounted();
        try {
            List<String> path = parsed(text);
            if (path.isEmpty()) {
                return -9;
            }
            int inode = resolve(path);
            if (!names(inode).isEmpty()) {
                return -5;
            }
            wipe(named(parent(path), last(path)));
            lessName(inode);
            endCall();
            return 0;
        } catch (Fault f) {
            return f.number;
        }
    }

    public int rename() {
        String text = useTape();
        needMounted();
        try {
            List<List<String>> both = parsedTwo(text);
            List<String> one = both.get(0);
            List<String> two = both.get(1);
            int inode = resolve(one);
            if (one.isEmpty() || two.isEmpty()
                    || two.size() > one.size() && two.subList(0, one.size()).equals(one)) {
                return -9;
            }
            int target = parent(two);
            Slot from = named(parent(one), last(one));
            Slot to = named(target, last(two));
            if (to == null) {
                if (target != parent(one) && wantsOfName(target) > available()) {
                    return -7;
                }
                wipe(from);
                addName(target, last(two), inode);
                endCall();
                return 0;
            }
            if (to.inode == inode) {
                return 0;
            }
            if (kind(inode) != kind(to.inode)) {
                return kind(inode) == 2 ? -3 : -4;
            }
            if (!names(to.inode).isEmpty()) {
                return -5;
            }
            setNumber(mine(to.block), to.at, 2, inode);
            wipe(from);
            lessName(to.inode);
            endCall();
            return 0;
        } catch (Fault f) {
            return f.number;
        }
    }

    /** What link() and copy() ask alike. */
    private int fileOfFirst(List<List<String>> both) {
        int inode = resolve(both.get(0));
        if (kind(inode) == 2) {
            throw new Fault(-4);
        }
        if (both.get(1).isEmpty()) {
            throw new Fault(-9);
        }
        if (named(parent(both.get(1)), last(both.get(1))) != null) {
            throw new Fault(-2);
        }
        return inode;
    }

    public int link() {
        String text = useTape();
        needMounted();
        try {
            List<List<String>> both = parsedTwo(text);
            int inode = fileOfFirst(both);
            int links = get(inode, 1, 1);
            if (links == 255) {
                return -9;
            }
            int target = parent(both.get(1));
            if (wantsOfName(target) > available()) {
                return -7;
            }
            addName(target, last(both.get(1)), inode);
            set(inode, 1, 1, links + 1);
            endCall();
            return links + 1;
        } catch (Fault f) {
            return f.number;
        }
    }

    private int clearBelow(int directory) {
        int n = 0;
        for (Slot s : names(directory)) {
            n += clearSlot(s);
        }
        return n;
    }

    private int clearSlot(Slot s) {
        int n = 1 + clearBelow(s.inode);
        wipe(s);
        lessName(s.inode);
        return n;
    }

    public int clear() {
        String text = useTape();
        needMounted();
        try {
            List<String> path = parsed(text);
            if (path.isEmpty()) {
                return -9;
            }
            resolve(path);
            int n = clearSlot(named(parent(path), last(path)));
            if (!group && changeNow().size() > 40) {
                forgetOwn();
                return -12;
            }
            endCall();
            return n;
        } catch (Fault f) {
            return f.number;
        }
    }

    public int copy() {
        String text = useTape();
        needMounted();
        try {
            List<List<String>> both = parsedTwo(text);
            int inode = fileOfFirst(both);
            TreeMap<Integer, Integer> from = data(inode);
            int tables = tablesFor(from.keySet()).size();
            if (tables > 32) {
                return -12;
            }
            if (lowestInode() == 0) {
                return -8;
            }
            int target = parent(both.get(1));
            if (from.size() + tables + wantsOfName(target) > available()) {
                return -7;
            }
            int made = newInode(1);
            addName(target, last(both.get(1)), made);
            int size = get(inode, 4, 4);
            set(made, 4, 4, size);
            set(made, 8, 4, get(inode, 8, 4));
            for (int place : from.keySet()) {
                have(made, place, false);
            }
            for (int place : from.keySet()) {
                byte[] row = see(from.get(place)).clone();
                for (int i = 0; i < 128; i++) {
                    if (place * 128 + i >= size) {
                        row[i] = 0;
                    }
                }
                direct(blockOf(made, place), row);
            }
            endCall();
            return made;
        } catch (Fault f) {
            return f.number;
        }
    }

    public int find() {
        String text = useTape();
        needMounted();
        try {
            return resolve(parsed(text));
        } catch (Fault f) {
            return f.number;
        }
    }

    private int store(int inode, int at, byte[] bytes) {
        if (at < 0 || (long) at + bytes.length > LIMIT) {
            return -10;
        }
        if (bytes.length == 0) {
            return 0;
        }
        Set<Integer> places = new TreeSet<>();
        for (int i = 0; i < bytes.length; i++) {
            places.add((at + i) / 128);
        }
        if (wanted(inode, places) > available()) {
            return -7;
        }
        TreeMap<Integer, Integer> before = data(inode);
        for (int place : places) {
            have(inode, place, false);
        }
        for (int place : places) {
            int b = blockOf(inode, place);
            byte[] row = before.containsKey(place) ? see(b).clone() : new byte[128];
            for (int i = 0; i < bytes.length; i++) {
                if ((at + i) / 128 == place) {
                    row[(at + i) % 128] = bytes[i];
                }
            }
            direct(b, row);
        }
        set(inode, 4, 4, Math.max(get(inode, 4, 4), at + bytes.length));
        endCall();
        return bytes.length;
    }

    private int faultOfFile(int inode) {
        return kind(inode) == 0 ? -11 : kind(inode) == 2 ? -4 : 0;
    }

    private byte[] tapeBytes() {
        byte[] bytes = new byte[tape.size()];
        for (int i = 0; i < bytes.length; i++) {
            bytes[i] = tape.get(i);
        }
        tape.clear();
        return bytes;
    }

    public int write(int inode, int at) {
        byte[] bytes = tapeBytes();
        needMounted();
        return faultOfFile(inode) < 0 ? faultOfFile(inode) : store(inode, at, bytes);
    }

    public int fill(int inode, int at, int n, int seed) {
        needMounted();
        if (n < 0 || n > 2000) {
            throw new IllegalArgumentException();
        }
        byte[] bytes = new byte[n];
        for (int i = 0; i < n; i++) {
            bytes[i] = (byte) (seed + i * i + (i >> 5));
        }
        return faultOfFile(inode) < 0 ? faultOfFile(inode) : store(inode, at, bytes);
    }

    private void resize(int inode, int size) {
        int before = get(inode, 4, 4);
        set(inode, 4, 4, size);
        if (size < before) {
            freeFrom(inode, (size + 127) / 128);
            int b = blockOf(inode, size / 128);
            if (size % 128 != 0 && b != 0) {
                byte[] row = see(b).clone();
                Arrays.fill(row, size % 128, 128, (byte) 0);
                direct(b, row);
            }
        }
    }

    public int truncate(int inode, int size) {
        needMounted();
        if (faultOfFile(inode) < 0) {
            return faultOfFile(inode);
        }
        if (size < 0 || size > LIMIT) {
            return -10;
        }
        resize(inode, size);
        endCall();
        return 0;
    }

    public int mark(int inode, int v) {
        needMounted();
        if (kind(inode) == 0) {
            return -11;
        }
        set(inode, 8, 4, v);
        endCall();
        return 0;
    }

    public int punch(int inode, int at, int n) {
        needMounted();
        if (faultOfFile(inode) < 0) {
            return faultOfFile(inode);
        }
        if (at < 0 || n < 0 || (long) at + n > LIMIT) {
            return -10;
        }
        List<Told> gone = new ArrayList<>();
        Set<Integer> tables = new HashSet<>();
        for (Told t : told(inode)) {
            if (!t.table && t.place * 128 >= at && t.place * 128 + 128 <= at + n) {
                gone.add(t);
                if (t.holder >= 61) {
                    tables.add(t.holder);
                }
            }
        }
        if (tables.size() > 32) {
            return -12;
        }
        for (Told t : gone) {
            setNumber(mine(t.holder), t.at, 2, 0);
            freeBlock(t.block);
        }
        int size = get(inode, 4, 4);
        TreeMap<Integer, Integer> rest = data(inode);
        for (int place : rest.keySet()) {
            byte[] row = see(rest.get(place)).clone();
            boolean hit = false;
            for (int i = 0; i < 128; i++) {
                int p = place * 128 + i;
                if (p >= at && p < at + n && p < size) {
                    row[i] = 0;
                    hit = true;
                }
            }
            if (hit) {
                direct(rest.get(place), row);
            }
        }
        endCall();
        return gone.size();
    }

    public int hold(int inode) {
        needMounted();
        if (kind(inode) == 0) {
            return -11;
        }
        return holds[inode] == 100 ? -9 : ++holds[inode];
    }

    public int release(int inode) {
        needMounted();
        if (kind(inode) == 0) {
            return -11;
        }
        if (holds[inode] == 0) {
            return -9;
        }
        int n = --holds[inode];
        if (lost(inode) && held(inode) == 0) {
            go(inode);
            endCall();
        }
        return n;
    }

    private int byteOf(int inode, int at) {
        if (kind(inode) != 1 || at < 0 || at >= get(inode, 4, 4)) {
            return -1;
        }
        int b = blockOf(inode, at / 128);
        return b == 0 ? 0 : see(b)[at % 128] & 255;
    }

    public int read(int inode, int at) {
        needMounted();
        return byteOf(inode, at);
    }

    public int about(int inode, int what) {
        needMounted();
        if (what < 0 || what > 6) {
            throw new IllegalArgumentException();
        }
        if (kind(inode) == 0) {
            return -11;
        }
        int[] all = {kind(inode), get(inode, 4, 4), get(inode, 8, 4), told(inode).size(), names(inode).size(),
            get(inode, 1, 1), held(inode)};
        return all[what];
    }

    public int where(int inode, int k) {
        needMounted();
        if (k < 0 || k > 4167) {
            throw new IllegalArgumentException();
        }
        return kind(inode) == 0 ? -11 : blockOf(inode, k);
    }

    public int entry(int directory, int k) {
        needMounted();
        if (k < 0 || k >= names(directory).size()) {
            throw new NoSuchElementException();
        }
        return names(directory).get(k).inode;
    }

    public int letter(int directory, int k, int i) {
        needMounted();
        if (k < 0 || k >= names(directory).size() || i < 0) {
            throw new NoSuchElementException();
        }
        String name = names(directory).get(k).name;
        return i < name.length() ? name.charAt(i) : -1;
    }

    public int open(int way) {
        String text = useTape();
        needMounted();
        if (!Arrays.asList(0, 1, 2, 4, 5, 6, 9, 10, 13, 14).contains(way)) {
            throw new IllegalArgumentException();
        }
        try {
            List<String> path = parsed(text);
            boolean there = true;
            int inode = 0;
            if ((way & 4) != 0 && !path.isEmpty()) {
                there = named(parent(path), last(path)) != null;
            }
            if (there) {
                inode = resolve(path);
                if (kind(inode) == 2) {
                    return -4;
                }
            }
            int handle = 0;
            while (handle < 32 && handles[handle] != null) {
                handle++;
            }
            if (handle == 32) {
                return -9;
            }
            if (!there) {
                inode = makeIn(parent(path), last(path), 1);
            } else if ((way & 8) != 0) {
                resize(inode, 0);
            }
            handles[handle] = new int[] {inode, 0, way & 3};
            endCall();
            return handle;
        } catch (Fault f) {
            return f.number;
        }
    }

    private boolean isOpen(int handle) {
        return handle >= 0 && handle < 32 && handles[handle] != null;
    }

    public int close(int handle) {
        needMounted();
        if (!isOpen(handle)) {
            return -13;
        }
        int inode = handles[handle][0];
        handles[handle] = null;
        if (lost(inode) && held(inode) == 0) {
            go(inode);
            endCall();
        }
        return 0;
    }

    public int put(int handle) {
        byte[] bytes = tapeBytes();
        needMounted();
        if (!isOpen(handle)) {
            return -13;
        }
        int[] h = handles[handle];
        if (h[2] == 0) {
            return -9;
        }
        int at = h[2] == 2 ? get(h[0], 4, 4) : h[1];
        int n = store(h[0], at, bytes);
        if (n > 0) {
            h[1] = at + n;
        }
        return n;
    }

    public int get(int handle) {
        needMounted();
        if (!isOpen(handle)) {
            return -13;
        }
        int[] h = handles[handle];
        int b = byteOf(h[0], h[1]);
        h[1] += b < 0 ? 0 : 1;
        return b;
    }

    public int seek(int handle, int at) {
        needMounted();
        if (!isOpen(handle)) {
            return -13;
        }
        if (at < 0 || at > LIMIT) {
            return -10;
        }
        int before = handles[handle][1];
        handles[handle][1] = at;
        return before;
    }

    public int look(int handle, int what) {
        needMounted();
        if (what < 0 || what > 2) {
            throw new IllegalArgumentException();
        }
        return isOpen(handle) ? handles[handle][what] : -13;
    }

    public boolean begin() {
        needMounted();
        boolean was = group;
        group = true;
        return !was;
    }

    public int end() {
        needMounted();
        if (!group) {
            return -9;
        }
        TreeMap<Integer, byte[]> change = changeNow();
        if (change.size() > 40) {
            undo();
            return -12;
        }
        group = false;
        commit(change);
        return change.size();
    }

    public int undo() {
        needMounted();
        if (!group) {
            return -9;
        }
        group = false;
        forgetOwn();
        for (int h = 0; h < 32; h++) {
            if (handles[h] != null && kind(handles[h][0]) != 1) {
                handles[h] = null;
            }
        }
        for (int i = 1; i <= 64; i++) {
            holds[i] = kind(i) == 0 ? 0 : holds[i];
        }
        startCall();
        lostGo(false);
        return 0;
    }

    public int flush() {
        needMounted();
        return flushQueue();
    }

    public int sync(int inode) {
        needMounted();
        if (faultOfFile(inode) < 0) {
            return faultOfFile(inode);
        }
        int n = 0;
        for (int b : new TreeSet<>(data(inode).values())) {
            if (buffer.containsKey(b)) {
                diskWrite(b, buffer.get(b));
                buffer.remove(b);
                n++;
            }
        }
        diskSync();
        return n;
    }

    public int apply() {
        needMounted();
        flushQueue();
        int n = log.size();
        applyLog();
        return n;
    }

    public void power(int steps) {
        if (!on) {
            throw new IllegalStateException();
        }
        if (steps < -1) {
            throw new IllegalArgumentException();
        }
        left = steps;
    }

    public void crash() {
        if (!on) {
            throw new IllegalStateException();
        }
        dark();
    }

    public int restart(long x) {
        if (on) {
            throw new IllegalStateException();
        }
        TreeMap<Integer, List<byte[]>> by = new TreeMap<>();
        for (Value v : waiting) {
            by.computeIfAbsent(v.block, b -> new ArrayList<>()).add(v.bytes);
        }
        for (int b : by.keySet()) {
            x = x * 6364136223846793005L + 1442695040888963407L;
            long k = (x >>> 33) % (1 + by.get(b).size());
            if (k > 0) {
                synced[b] = by.get(b).get((int) k - 1);
            }
        }
        waiting.clear();
        on = true;
        return by.size();
    }

    private void needByte(int block, int i) {
        if (block < 0 || block >= blocks || i < 0 || i > 127) {
            throw new NoSuchElementException();
        }
    }

    public int byteAt(int block, int i) {
        needByte(block, i);
        return reads(block)[i] & 255;
    }

    public int waiting(int block) {
        needByte(block, 0);
        int n = 0;
        for (Value v : waiting) {
            n += v.block == block ? 1 : 0;
        }
        return n;
    }

    public int seen(int block, int i) {
        needMounted();
        needByte(block, i);
        return see(block)[i] & 255;
    }

    private long treeOf(long h, int directory, boolean bytes) {
        for (Slot s : names(directory)) {
            for (char c : s.name.toCharArray()) {
                h = h * 31 + c;
            }
            h += kind(s.inode);
            h = h * 31 + get(s.inode, 4, 4);
            h = h * 31 + get(s.inode, 8, 4);
            if (kind(s.inode) == 2) {
                h = treeOf(h, s.inode, bytes);
            } else if (bytes) {
                TreeMap<Integer, Integer> map = data(s.inode);
                for (int i = 0; i < get(s.inode, 4, 4); i++) {
                    int b = map.getOrDefault(i / 128, 0);
                    h = h * 31 + (b == 0 ? 0 : see(b)[i % 128] & 255);
                }
            }
        }
        return h * 31 + 3;
    }

    public long tree(boolean data) {
        needMounted();
        return treeOf(17, 1, data);
    }

    public int check() {
        needMounted();
        return 0;
    }

    public int count(int what) {
        if (what < 0 || what > 17) {
            throw new IllegalArgumentException();
        }
        boolean up = mounted && on;
        int open = 0;
        for (int[] h : handles) {
            open += h != null ? 1 : 0;
        }
        int freeInodes = 0;
        int lostInodes = 0;
        for (int i = 1; up && i <= 64; i++) {
            freeInodes += kind(i) == 0 ? 1 : 0;
            lostInodes += lost(i) ? 1 : 0;
        }
        switch (what) {
            case 0: return up ? freeCount() : 0;
            case 1: return freeInodes;
            case 2: return up ? rests.size() : 0;
            case 3: return up ? queue.size() : 0;
            case 4: return up ? log.size() : 0;
            case 5: return up ? turn : 0;
            case 6: return buffer.size();
            case 7: return waiting.size();
            case 8: return writes;
            case 9: return syncs;
            case 10: return left;
            case 11: return outs;
            case 12: return tape.size();
            case 13: return up ? 1 : 0;
            case 14: return on ? 1 : 0;
            case 15: return lostInodes;
            case 16: return up && group ? 1 : 0;
            default: return up ? open : 0;
        }
    }
}
