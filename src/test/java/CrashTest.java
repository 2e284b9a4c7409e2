import java.util.ArrayList;
import java.util.List;

/** The power fails at every step of a story, also while it comes back: what comes back is behind some first changes. */
public final class CrashTest {
    /** A story of calls, each of which makes at most one change; throws when the power fails. */
    private static void call(LedgerFiles x, int i) {
        switch (i) {
            case 0: Kit.directory(x, "/d"); break;
            case 1: Kit.file(x, "/d/f"); break;
            case 2: x.fill(3, 0, 1500, 7); break;
            case 3: Kit.link(x, "/d/f", "/g"); break;
            case 4: Kit.directory(x, "/e"); break;
            case 5: Kit.rename(x, "/d/f", "/e/h"); break;
            case 6: x.mark(3, 99); break;
            case 7: Kit.copy(x, "/g", "/c"); break;
            case 8: x.truncate(3, 700); break;
            case 9: Kit.file(x, "/e/i"); break;
            case 10: Kit.clear(x, "/d"); break;
            case 11: x.fill(5, 9000, 400, 1); break;
            case 12: x.punch(5, 0, 1024); break;
            case 13: Kit.directory(x, "/d"); break;
            case 14: Kit.rename(x, "/c", "/g"); break;
            case 15: Kit.remove(x, "/e/i"); break;
            case 16: Kit.file(x, "/d/z"); break;
            case 17: x.mark(1, 5); break;
            case 18: Kit.clear(x, "/e"); break;
            default: Kit.remove(x, "/g");
        }
    }

    private static final int CALLS = 20;

    /** The trees behind each call of the story, without failures. */
    private static List<Long> trees(int buffer, int group) {
        LedgerFiles x = Kit.mounted(128, buffer, group);
        List<Long> list = new ArrayList<>();
        list.add(x.tree(false));
        for (int i = 0; i < CALLS; i++) {
            call(x, i);
            list.add(x.tree(false));
        }
        return list;
    }

    private static void come(LedgerFiles x, long seed, int again) {
        x.restart(seed);
        x.power(again);
        try {
            x.mount();
            x.power(LedgerFiles.NONE);
        } catch (UnsupportedOperationException e) {
            x.restart(seed + 1);
            x.mount();
        }
    }

    /** Fails behind some steps: whether it failed at all. */
    private static boolean storyFails(int buffer, int group, int steps, List<Long> trees) {
        LedgerFiles x = Kit.mounted(128, buffer, group);
        x.power(steps);
        int done = 0;
        int safe = 0;
        try {
            for (int i = 0; i < CALLS; i++) {
                call(x, i);
                done = i + 1;
                safe = x.count(3) == 0 ? done : safe;
            }
            return false;
        } catch (UnsupportedOperationException e) {
            come(x, 31L * steps + group, steps % 9);
        }
        boolean known = false;
        for (int i = safe; i <= done + 1 && i < trees.size(); i++) {
            known |= trees.get(i) == x.tree(false);
        }
        String what = "tree behind " + steps + " steps (M " + buffer + ", G " + group + ")";
        Kit.due(what + " is that of some first changes, from " + safe + " on", known, true);
        Kit.due(what + ": check", x.check(), 0);
        Kit.due(what + ": lost", x.count(15), 0);
        return true;
    }

    public static void main(String[] args) {
        for (int buffer : new int[] {4, 9, 64}) {
            for (int group : new int[] {1, 3, 7}) {
                List<Long> trees = trees(buffer, group);
                int steps = 0;
                while (steps < 5000 && storyFails(buffer, group, steps, trees)) {
                    steps++;
                }
                Kit.due("the story ends", steps > 20 && steps < 5000, true);
            }
        }
        Kit.done();
    }
}
