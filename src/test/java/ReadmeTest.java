/** The calls that README.md shows, with the answers that it tells. */
public final class ReadmeTest {
    private static LedgerFiles ordinaryUse() {
        LedgerFiles fs = new LedgerFiles(200, 8, 4);
        Kit.due("format()", fs.format(), 139);
        Kit.due("mount()", fs.mount(), 0);
        Kit.due("feed()", fs.feed(0x2f612d62, 0x2e630000, 0, 0, 0), 20);
        Kit.due("back(14)", fs.back(14), 6);
        Kit.due("make(false)", fs.make(false), 2);
        Kit.due("fill()", fs.fill(2, 0, 300, 7), 300);
        Kit.due("read()", fs.read(2, 2), 11);
        Kit.due("flush()", fs.flush(), 2);
        Kit.due("find(/a-b.c)", Kit.find(fs, "/a-b.c"), 2);
        Kit.run("unmount()", "", fs::unmount);
        return fs;
    }

    private static void powerFails(LedgerFiles fs) {
        Kit.due("mount()", fs.mount(), 0);
        Kit.due("mark(5)", fs.mark(2, 5), 0);
        Kit.due("flush()", fs.flush(), 1);
        Kit.due("mark(6)", fs.mark(2, 6), 0);
        fs.power(0);
        Kit.call("flush() without power", Kit.POWER, fs::flush);
        Kit.due("restart()", fs.restart(12345L), 0);
        Kit.due("mount()", fs.mount(), 1);
        Kit.due("about(2, 2)", fs.about(2, 2), 5);
    }

    public static void main(String[] args) {
        powerFails(ordinaryUse());
        Kit.done();
    }
}
