import java.util.ArrayList;
import java.util.List;
import java.util.Random;

/** Long random runs, each with a seed of its own, put to LedgerFiles and to the Model. */
public final class FuzzTest {
    private static final String[] NAMES = {"a", "b", "c", "dd", "e.f", "thirteen-chrs", "..."};
    private static final int[] PLACES = {0, 100, 127, 128, 1000, 1024, 1100, 5000, 9200, 9216, 9300, 17000, 30000,
        100000, 399000, 399990, 400000};

    private static final int[] WILD = {Integer.MIN_VALUE, Integer.MIN_VALUE + 1, -128, -1, 400001,
        Integer.MAX_VALUE - 127, Integer.MAX_VALUE};

    private final Random random;
    private final Twins twins;
    private final int inodes;
    private final int failures;
    private final boolean bursts;

    private FuzzTest(long seed) {
        random = new Random(seed);
        int[] sizes = {128, 128, 140, 200, 300, 1024};
        twins = new Twins(sizes[random.nextInt(sizes.length)], random.nextInt(4) == 0 ? 64 : random.nextInt(20),
                random.nextInt(17));
        inodes = 3 + random.nextInt(10);
        failures = random.nextInt(3);
        bursts = random.nextInt(2) == 0;
    }

    private String name() {
        return random.nextInt(4) == 0 ? "n" + random.nextInt(40) : NAMES[random.nextInt(NAMES.length)];
    }

    /** A path that is there, if there is one. */
    private String pathThere() {
        List<String> paths = new ArrayList<>();
        if (twins.model().isMounted()) {
            twins.model().pathsBelow(1, "", paths);
        }
        return paths.isEmpty() ? "/a" : paths.get(random.nextInt(paths.size()));
    }

    private String path() {
        int kind = random.nextInt(60);
        if (kind >= 42) {
            return pathThere();
        }
        if (kind >= 30) {
            String there = pathThere();
            return there.substring(0, there.lastIndexOf('/')) + "/" + name();
        }
        if (kind >= 25) {
            return pathThere() + "/" + name();
        }
        if (kind == 0) {
            return "/";
        }
        if (kind == 1) {
            String[] none = {"", "a", "/a/", "//", "/.", "/..", "/a/./b", "/fourteen-chars", "/a b", "/a\u00e4",
                "/a/b/c/d/e/f/g/h/i/j/k/l/m/n/o/p/q", "/a/b/c/d/e/f/g/h/i/j/k/l/m/n/o/p"};
            return none[random.nextInt(none.length)];
        }
        StringBuilder s = new StringBuilder();
        int depth = 1 + random.nextInt(random.nextInt(3) + 1);
        for (int i = 0; i < depth; i++) {
            s.append('/').append(i < depth - 1 ? NAMES[random.nextInt(3)] : name());
        }
        return s.toString();
    }

    private void path1() {
        twins.tape(path());
    }

    private void path2() {
        int kind = random.nextInt(40);
        twins.tape(kind == 0 ? path() : kind == 1 ? path() + "\0" + path() + "\0" : path() + "\0" + path());
    }

    private int inode() {
        if (random.nextInt(100) == 0) {
            return random.nextInt();
        }
        int kind = random.nextInt(30);
        if (kind > 8 && twins.model().isMounted()) {
            List<Integer> there = twins.model().inodesOf(kind == 9 ? 2 : 1);
            return there.isEmpty() ? 2 : there.get(random.nextInt(there.size()));
        }
        return kind == 0 ? 0 : kind == 1 ? 65 : kind == 2 ? -5 : kind == 3 ? 64 : 1 + random.nextInt(inodes);
    }

    private int at() {
        if (random.nextInt(50) == 0) {
            return WILD[random.nextInt(WILD.length)];
        }
        if (random.nextInt(8) == 0) {
            return 9216 + 8192 * random.nextInt(48) + random.nextInt(3);
        }
        int at = PLACES[random.nextInt(random.nextInt(3) == 0 ? PLACES.length : 8)];
        return random.nextInt(2) == 0 ? at : at + random.nextInt(300) - (random.nextInt(10) == 0 ? 150 : 0);
    }

    private void bytes() {
        StringBuilder s = new StringBuilder();
        int n = random.nextInt(4) == 0 ? random.nextInt(1000) : random.nextInt(60);
        for (int i = 0; i < n; i++) {
            s.append((char) random.nextInt(256));
        }
        twins.tape(s.toString());
    }

    private void names() {
        switch (random.nextInt(12)) {
            case 0: case 1: case 2:
                path1();
                twins.call("make", random.nextInt(3) == 0);
                break;
            case 3: case 4:
                path1();
                twins.call("remove");
                break;
            case 5: case 6:
                path2();
                twins.call("rename");
                break;
            case 7:
                path2();
                twins.call("link");
                break;
            case 8:
                path1();
                twins.call("clear");
                break;
            case 9: case 10:
                path2();
                twins.call("copy");
                break;
            default:
                path1();
                twins.call("find");
        }
    }

    private void files() {
        switch (random.nextInt(16)) {
            case 0: case 1:
                bytes();
                twins.call("write", inode(), at());
                break;
            case 2: case 3: case 4: case 5:
                twins.call("fill", inode(), at(), random.nextInt(40) == 0 ? random.nextInt(5000) - 500
                        : random.nextInt(2001), random.nextInt());
                break;
            case 6: case 7:
                twins.call("truncate", inode(), at());
                break;
            case 8:
                twins.call("mark", inode(), random.nextInt());
                break;
            case 9: case 10:
                twins.call("punch", inode(), at(), random.nextInt(3) == 0 ? at()
                        : random.nextInt(3) == 0 ? random.nextInt(400000) : random.nextInt(2000));
                break;
            case 11:
                twins.call("hold", inode());
                break;
            case 12:
                twins.call("release", inode());
                break;
            case 13:
                twins.call("about", inode(), random.nextInt(9) - 1);
                twins.call("where", inode(), random.nextInt(10) == 0 ? random.nextInt(4300) - 50 : random.nextInt(20));
                break;
            case 14:
                twins.call("read", inode(), at());
                twins.call("sync", inode());
                break;
            default:
                twins.call("entry", inode(), random.nextInt(6) - 1);
                twins.call("letter", inode(), random.nextInt(6) - 1, random.nextInt(6) - 1);
        }
    }

    private int handle() {
        int open = twins.number("count", 17);
        return random.nextInt(6) == 0 ? random.nextInt(36) - 2 : random.nextInt(open + 1);
    }

    private void handles() {
        switch (random.nextInt(9)) {
            case 0: case 1:
                path1();
                twins.call("open", random.nextInt(17) - 1);
                break;
            case 2:
                twins.call("close", handle());
                break;
            case 3: case 4:
                bytes();
                twins.call("put", handle());
                break;
            case 5:
                twins.call("get", handle());
                break;
            case 6:
                twins.call("seek", handle(), at());
                break;
            default:
                twins.call("look", handle(), random.nextInt(5) - 1);
        }
    }

    private void whole() {
        switch (random.nextInt(12)) {
            case 0: case 1: case 2:
                twins.call("begin");
                break;
            case 3: case 4:
                twins.call("end");
                break;
            case 5:
                twins.call("undo");
                break;
            case 6:
                twins.call("flush");
                break;
            case 7:
                twins.call("apply");
                break;
            case 8:
                if (random.nextInt(3) == 0) {
                    twins.call("unmount");
                }
                break;
            case 9:
                if (random.nextInt(8) == 0) {
                    twins.call("format");
                }
                break;
            default:
                if (failures > 0) {
                    twins.call("power", random.nextInt(failures == 1 ? 60 : 12) - 2);
                }
        }
    }

    /** Many calls of one kind in a row, to come to the limits. */
    private void burst() {
        int n = 5 + random.nextInt(40);
        String there = pathThere();
        String directory = there.substring(0, there.lastIndexOf('/'));
        int kind = random.nextInt(7);
        int inode = inode();
        int first = random.nextInt(40);
        int way = random.nextInt(2) == 0 ? 5 : 6;
        for (int i = 0; i < n && !twins.isWrong(); i++) {
            switch (kind) {
                case 0:
                    twins.call("fill", inode, 9216 + 8192 * ((first + i) % 48), 1 + i, i);
                    break;
                case 1:
                    twins.call("fill", inode, 2000 * (first + i), 2000, i);
                    break;
                case 2:
                    twins.tape(directory + "/m" + i);
                    twins.call("make", random.nextInt(4) == 0);
                    break;
                case 3:
                    twins.tape(there + "\0" + directory + "/l" + (first + i));
                    twins.call("link");
                    break;
                case 4:
                    twins.tape(directory + "/o" + i % 3);
                    twins.call("open", way);
                    break;
                case 5:
                    twins.tape(there + "\0" + directory + "/c" + i);
                    twins.call("copy");
                    break;
                default:
                    twins.call("mark", 1 + i, i);
            }
        }
    }

    private void comeBack() {
        if (random.nextInt(10) == 0) {
            return;
        }
        if (twins.number("count", 14) == 0) {
            twins.call("restart", random.nextLong());
            if (failures > 0 && random.nextInt(3) == 0) {
                twins.call("power", random.nextInt(10));
            }
        }
        Object came = twins.call("mount");
        if ("throws java.lang.IllegalArgumentException".equals(came)) {
            twins.call("format");
        }
    }

    private boolean runs(int calls) {
        twins.call("format");
        twins.call("mount");
        for (int i = 0; i < calls && !twins.isWrong(); i++) {
            int kind = random.nextInt(bursts ? 21 : 20);
            if (kind == 20) {
                burst();
            } else if (kind < 7) {
                names();
            } else if (kind < 14) {
                files();
            } else if (kind < 17) {
                handles();
            } else {
                whole();
            }
            if (failures == 2 && random.nextInt(40) == 0) {
                twins.call("crash");
            }
            twins.compareCounts();
            if (i % 60 == 59) {
                twins.compareAll();
            }
            if (twins.number("count", 13) == 0) {
                comeBack();
            }
        }
        twins.compareAll();
        return !twins.isWrong();
    }

    public static void main(String[] args) {
        int from = args.length > 0 ? Integer.parseInt(args[0]) : 1;
        int to = args.length > 1 ? Integer.parseInt(args[1]) : 60;
        for (int seed = from; seed <= to; seed++) {
            FuzzTest test = new FuzzTest(seed);
            if (!test.runs(300)) {
                System.out.println("seed " + seed + ":");
                test.twins.tell();
                System.exit(1);
            }
        }
    }
}
