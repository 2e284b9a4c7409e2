/** Promises 38 to 40: the power. */
public final class PowerTest {
    private static void promise38Power() {
        LedgerFiles x = Kit.mounted(128, 64, 1);
        Kit.run("power(-1)", "", () -> x.power(-1));
        Kit.due("not told", x.count(10), -1);
        Kit.run("power(3)", "", () -> x.power(3));
        Kit.due("told", x.count(10), 3);
        Kit.run("in its place", "", () -> x.power(5));
        Kit.due("told", x.count(10), 5);
        x.sync(Kit.find(x, "/") + 1);
        Kit.due("no step, no less", x.count(10), 5);
        x.mark(1, 1);
        Kit.due("value, block 2, sync, block 1, sync", x.count(10), 0);
        Kit.due("the power is on", x.count(14), 1);
        Kit.call("the next step is not done", Kit.POWER, x::apply);
        Kit.due("the power is off", x.count(14), 0);
        Kit.due("nothing is told then", x.count(10), -1);
        Kit.due("not mounted", x.count(13), 0);
        Kit.run("power() without power", Kit.STATE, () -> x.power(-5));
        x.restart(0);
        Kit.run("power() when not mounted", "", () -> x.power(7));
        Kit.run("power(-2)", Kit.ARGUMENT, () -> x.power(-2));
        Kit.run("power of the lowest int", Kit.ARGUMENT, () -> x.power(Integer.MIN_VALUE));
        Kit.due("what was told stays", x.count(10), 7);
        Kit.run("power of the highest int", "", () -> x.power(Integer.MAX_VALUE));
        Kit.due("told", x.count(10), Integer.MAX_VALUE);
    }

    private static void promise38TapeStays() {
        LedgerFiles x = Kit.mounted(128, 64, 1);
        Kit.tape(x, "/f");
        x.power(0);
        Kit.call("make() that fails", Kit.POWER, () -> x.make(false));
        Kit.due("it used up the tape", x.count(12), 0);
        x.restart(0);
        x.mount();
        Kit.tape(x, "kept");
        x.power(0);
        Kit.call("mark() that fails", Kit.POWER, () -> x.mark(1, 4));
        Kit.due("the tape stays", x.count(12), 4);
        x.restart(0);
        Kit.due("behind restart(), too", x.count(12), 4);
    }

    private static void promise39Crash() {
        LedgerFiles x = Kit.mounted(128, 64, 4);
        int f = Kit.file(x, "/f");
        Kit.write(x, f, 0, "gone");
        x.power(9);
        Kit.run("crash()", "", x::crash);
        Kit.due("power", x.count(14), 0);
        Kit.due("buffer", x.count(6), 0);
        Kit.due("steps", x.count(10), -1);
        for (int what : new int[] {0, 1, 2, 3, 4, 5, 13, 15, 16, 17}) {
            Kit.due("count(" + what + ")", x.count(what), 0);
        }
        Kit.run("crash() again", Kit.STATE, x::crash);
        x.restart(4);
        Kit.run("crash() when not mounted", "", x::crash);
        x.restart(4);
        x.mount();
        Kit.due("what was not on the disk is gone", Kit.find(x, "/f"), -1);
    }

    /** What the document says of the power coming again, for a block of which values wait. */
    private static int chosen(long x, int turns, int wait) {
        long v = x;
        for (int i = 0; i < turns; i++) {
            v = v * 6364136223846793005L + 1442695040888963407L;
        }
        return (int) ((v >>> 33) % (1 + wait));
    }

    private static void promise40Restart() {
        int[] kept = new int[4];
        for (long seed = -20; seed < 20; seed++) {
            LedgerFiles x = Kit.mounted(128, 4, 1);
            int f = Kit.file(x, "/f");
            x.fill(f, 0, 640, 0);
            x.apply();
            // five blocks in a buffer of four: each round writes them all once more, without a sync
            for (int round = 1; round <= 3; round++) {
                for (int place = 0; place < 5; place++) {
                    x.fill(f, 128 * place, 1, round);
                }
            }
            int[] wait = new int[5];
            int blocks = 0;
            for (int place = 0; place < 5; place++) {
                wait[place] = x.waiting(62 + place);
                blocks += wait[place] > 0 ? 1 : 0;
            }
            Kit.due("values of the first block", wait[0], 3);
            Kit.call("restart() with the power on", Kit.STATE, () -> x.restart(1));
            x.crash();
            Kit.due("restart()", x.restart(seed), blocks);
            Kit.due("none waits", x.count(7), 0);
            for (int place = 0; place < 5; place++) {
                int k = chosen(seed, place + 1, wait[place]);
                int due = k == 0 ? 0 : k;
                Kit.due("block " + place + " with seed " + seed, x.byteAt(62 + place, 0) & 3, due == 0
                        ? firstByte(place) & 3 : due);
                kept[k]++;
            }
            Kit.due("power", x.count(14) * 10 + x.count(13), 10);
        }
        Kit.due("all choices were there", kept[0] > 0 && kept[1] > 0 && kept[2] > 0 && kept[3] > 0, true);
    }

    private static int firstByte(int place) {
        int i = 128 * place;
        return i * i + (i >> 5) & 255;
    }

    private static void promise40NothingWaits() {
        LedgerFiles x = Kit.mounted(128, 4, 1);
        x.power(50);
        x.crash();
        Kit.due("no values", x.restart(Long.MIN_VALUE), 0);
        Kit.due("no failure is told", x.count(10), -1);
        Kit.call("restart() again", Kit.STATE, () -> x.restart(1));
        Kit.call("read() behind it", Kit.STATE, () -> x.read(2, 0));
        Kit.call("mount()", 0, x::mount);
    }

    private static void promise38Zero() {
        LedgerFiles x = Kit.mounted(128, 8, 1);
        x.power(0);
        Kit.due("steps", x.count(10), 0);
        Kit.due("the power is on", x.count(14) * 10 + x.count(13), 11);
        Kit.due("calls without steps", x.about(1, 0), 2);
        Kit.due("nothing to flush", x.flush() + x.apply(), 0);
        Kit.call("the first step", Kit.POWER, () -> x.mark(1, 1));
        Kit.due("the power is off", x.count(14) * 10 + x.count(13), 0);
        x.restart(0);
        Kit.due("no failure is told", x.count(10), -1);
        Kit.due("format() has all its steps", x.format(), 67);
    }

    private static void promise38TakenBack() {
        LedgerFiles x = Kit.mounted(128, 8, 1);
        x.power(1);
        x.power(-1);
        Kit.due("not told", x.count(10), -1);
        Kit.due("a mark and its steps", x.mark(1, 1), 0);
        x.power(0);
        x.power(4);
        Kit.call("in place of what was told before", Kit.POWER, () -> x.mark(1, 2));
        Kit.due("writes of four steps: a value, block 2, block 1", x.count(7), 1);
        x.restart(0);
        x.power(3);
        x.crash();
        x.restart(0);
        Kit.due("behind restart() nothing is told", x.count(10), -1);
    }

    private static void promise39WhatWaits() {
        LedgerFiles x = Kit.mounted(128, 4, 16);
        Kit.file(x, "/f");
        x.fill(2, 0, 640, 1);
        int writes = x.count(8);
        int syncs = x.count(9);
        Kit.due("a value waits", x.count(7), 1);
        x.crash();
        Kit.due("it waits still", x.count(7) * 10 + x.waiting(62), 11);
        Kit.due("no step was made", x.count(8) + x.count(9), writes + syncs);
        Kit.due("count(11) stays", x.count(11) > 0, true);
        Kit.due("of one block", x.restart(1), 1);
        Kit.due("none waits then", x.count(7) * 10 + x.waiting(62), 0);
        Kit.due("no step was made then", x.count(8) + x.count(9), writes + syncs);
    }

    private static void promise40BlocksByRisingNumbers() {
        // blocks 62 and 63 wait with one value each: which are kept tells the order of the x
        for (long seed = 0; seed < 40; seed++) {
            LedgerFiles x = Kit.mounted(128, 8, 1);
            int f = Kit.file(x, "/f");
            x.fill(f, 0, 256, 0);
            x.apply();
            x.fill(f, 128, 1, 201);
            x.fill(f, 0, 1, 200);
            x.power(2);
            Kit.call("sync() whose sync fails", Kit.POWER, () -> x.sync(f));
            Kit.due("two blocks", x.restart(seed), 2);
            Kit.due("the lower one, seed " + seed, x.byteAt(62, 0), chosen(seed, 1, 1) == 0 ? 0 : 200);
            Kit.due("the higher one, seed " + seed, x.byteAt(63, 0), chosen(seed, 2, 1) == 0 ? 4 : 201);
        }
    }

    private static void promise40Extremes() {
        for (long seed : new long[] {Long.MIN_VALUE, -1, 0, 1, Long.MAX_VALUE}) {
            LedgerFiles x = Kit.mounted(128, 8, 1);
            int f = Kit.file(x, "/f");
            x.fill(f, 0, 1, 0);
            x.apply();
            x.fill(f, 0, 1, 200);
            x.power(1);
            Kit.call("sync() whose sync fails", Kit.POWER, () -> x.sync(f));
            x.restart(seed);
            Kit.due("the block, seed " + seed, x.byteAt(62, 0), chosen(seed, 1, 1) == 0 ? 0 : 200);
        }
    }

    public static void main(String[] args) {
        promise38Power();
        promise38TapeStays();
        promise39Crash();
        promise40Restart();
        promise40NothingWaits();
        promise38Zero();
        promise38TakenBack();
        promise39WhatWaits();
        promise40BlocksByRisingNumbers();
        promise40Extremes();
        Kit.done();
    }
}
