/** What calls refuse: by exceptions and by numbers below 0; then nothing has changed, but for the tape. */
public final class RefusedTest {
    private interface OnFiles {
        Object run(LedgerFiles x);
    }

    /** A call, what is on the tape ahead of it, what is due, and whether it reads the tape. */
    private static final class Case {
        final String name;
        final String tape;
        final Object due;
        final boolean reads;
        final OnFiles call;

        Case(String name, String tape, Object due, boolean reads, OnFiles call) {
            this.name = name;
            this.tape = tape;
            this.due = due;
            this.reads = reads;
            this.call = call;
        }
    }

    private static Case path(String name, String tape, Object due, OnFiles call) {
        return new Case(name + " of " + tape.replace('\0', ' '), tape, due, true, call);
    }

    private static Case plain(String name, Object due, OnFiles call) {
        return new Case(name, "left", due, false, call);
    }

    /** All calls that want it mounted, with arguments that would be wrong, too. */
    private static Case[] wantMounted() {
        String no = Kit.STATE;
        return new Case[] {
            plain("unmount", no, x -> {
                x.unmount();
                return "";
            }),
            path("make", "/f", no, x -> x.make(false)), path("make", "wrong", no, x -> x.make(true)),
            path("remove", "/f", no, LedgerFiles::remove), path("rename", "/f\0/g", no, LedgerFiles::rename),
            path("link", "/f\0/g", no, LedgerFiles::link), path("clear", "/f", no, LedgerFiles::clear),
            path("copy", "/f\0/g", no, LedgerFiles::copy), path("find", "/f", no, LedgerFiles::find),
            path("write", "bytes", no, x -> x.write(2, 0)), path("write", "bytes", no, x -> x.write(-1, -1)),
            plain("fill", no, x -> x.fill(2, 0, 1, 1)), plain("fill of -1", no, x -> x.fill(2, 0, -1, 1)),
            plain("truncate", no, x -> x.truncate(2, 0)), plain("mark", no, x -> x.mark(1, 1)),
            plain("punch", no, x -> x.punch(2, 0, 1)), plain("hold", no, x -> x.hold(1)),
            plain("release", no, x -> x.release(1)), plain("read", no, x -> x.read(2, 0)),
            plain("about", no, x -> x.about(1, 0)), plain("about 7", no, x -> x.about(1, 7)),
            plain("where", no, x -> x.where(1, 0)), plain("where -1", no, x -> x.where(1, -1)),
            plain("entry", no, x -> x.entry(1, 0)), plain("entry -1", no, x -> x.entry(1, -1)),
            plain("letter", no, x -> x.letter(1, 0, 0)), plain("letter -1", no, x -> x.letter(1, 0, -1)),
            path("open", "/f", no, x -> x.open(0)), path("open 3", "/f", no, x -> x.open(3)),
            plain("close", no, x -> x.close(0)), path("put", "bytes", no, x -> x.put(0)),
            plain("get", no, x -> x.get(0)), plain("seek", no, x -> x.seek(0, 0)),
            plain("look", no, x -> x.look(0, 0)), plain("look 3", no, x -> x.look(0, 3)),
            plain("begin", no, LedgerFiles::begin), plain("end", no, LedgerFiles::end),
            plain("undo", no, LedgerFiles::undo), plain("flush", no, LedgerFiles::flush),
            plain("sync", no, x -> x.sync(2)), plain("apply", no, LedgerFiles::apply),
            plain("seen", no, x -> x.seen(0, 0)), plain("seen -1", no, x -> x.seen(-1, 0)),
            plain("tree", no, x -> x.tree(true)), plain("check", no, LedgerFiles::check)};
    }

    private static String snapshot(LedgerFiles x) {
        StringBuilder s = new StringBuilder();
        for (int what = 0; what < 18; what++) {
            s.append(what == 12 ? 0 : x.count(what)).append(' ');
        }
        if (x.count(13) == 1) {
            s.append(x.tree(true)).append(' ').append(x.check());
            for (int h = 0; h < 32; h++) {
                s.append(' ').append(x.look(h, 0)).append(',').append(x.look(h, 1)).append(',').append(x.look(h, 2));
            }
            for (int inode = 1; inode <= 64; inode++) {
                s.append(' ').append(x.about(inode, 6));
            }
        }
        return s.toString();
    }

    private static void ask(String where, LedgerFiles x, Case c) {
        x.back(x.count(12));
        Kit.tape(x, c.tape);
        int tape = x.count(12);
        String before = snapshot(x);
        Kit.call(c.name + " " + where, c.due, () -> c.call.run(x));
        Kit.due("the tape behind " + c.name + " " + where, x.count(12), c.reads ? 0 : tape);
        Kit.due("all else behind " + c.name + " " + where, snapshot(x), before);
    }

    private static void notMounted() {
        for (Case c : wantMounted()) {
            LedgerFiles fresh = new LedgerFiles(128, 8, 4);
            ask("of a new object", fresh, c);
            LedgerFiles formatted = new LedgerFiles(128, 8, 4);
            formatted.format();
            ask("when it is not mounted", formatted, c);
            LedgerFiles unmounted = Kit.mounted(128, 8, 4);
            unmounted.unmount();
            ask("behind unmount()", unmounted, c);
            LedgerFiles restarted = Kit.dark(128, 8, 4);
            restarted.restart(1);
            ask("behind restart()", restarted, c);
        }
    }

    private static void withoutPower() {
        for (Case c : wantMounted()) {
            ask("without power", Kit.dark(128, 8, 4), c);
            LedgerFiles failed = Kit.mounted(128, 8, 1);
            failed.power(0);
            Kit.call("mark() that fails", Kit.POWER, () -> failed.mark(1, 1));
            ask("behind a failure", failed, c);
        }
        Case[] others = {plain("format", Kit.STATE, LedgerFiles::format), plain("mount", Kit.STATE, LedgerFiles::mount),
            plain("power", Kit.STATE, x -> {
                x.power(1);
                return "";
            }), plain("power -2", Kit.STATE, x -> {
                x.power(-2);
                return "";
            }), plain("crash", Kit.STATE, x -> {
                x.crash();
                return "";
            })};
        for (Case c : others) {
            ask("without power", Kit.dark(128, 8, 4), c);
        }
    }

    private static void withPower() {
        Case restart = plain("restart", Kit.STATE, x -> x.restart(1));
        ask("of a new object", new LedgerFiles(128, 8, 4), restart);
        LedgerFiles x = Kit.mounted(128, 8, 4);
        ask("while mounted", x, restart);
        ask("while mounted", x, plain("format", Kit.STATE, LedgerFiles::format));
        ask("while mounted", x, plain("mount", Kit.STATE, LedgerFiles::mount));
        x.begin();
        ask("in a group", x, plain("format", Kit.STATE, LedgerFiles::format));
        ask("in a group", x, plain("mount", Kit.STATE, LedgerFiles::mount));
        LedgerFiles fresh = new LedgerFiles(128, 8, 4);
        ask("of a new object", fresh, plain("mount", Kit.ARGUMENT, LedgerFiles::mount));
    }

    /** Root with /d (2), /d/f (3), /g (4), /e (5); 3 is open to read as 0, 4 to write as 1; 1 is held once. */
    private static LedgerFiles some() {
        LedgerFiles x = Kit.mounted(128, 8, 16);
        Kit.directory(x, "/d");
        Kit.file(x, "/d/f");
        Kit.file(x, "/g");
        Kit.directory(x, "/e");
        x.fill(3, 0, 700, 1);
        x.fill(4, 2000, 50, 1);
        Kit.open(x, "/d/f", 0);
        Kit.open(x, "/g", 1);
        x.hold(1);
        x.flush();
        x.mark(1, 9);
        return x;
    }

    private static Case[] wrongNames() {
        return new Case[] {
            path("make", "/d/", -6, x -> x.make(false)), path("make", "/", -2, x -> x.make(true)),
            path("make", "/no/x", -1, x -> x.make(false)), path("make", "/g/x", -3, x -> x.make(false)),
            path("make", "/d/f", -2, x -> x.make(true)),
            path("remove", "d", -6, LedgerFiles::remove), path("remove", "/", -9, LedgerFiles::remove),
            path("remove", "/no", -1, LedgerFiles::remove), path("remove", "/g/x", -3, LedgerFiles::remove),
            path("remove", "/d", -5, LedgerFiles::remove),
            path("rename", "/g", -6, LedgerFiles::rename), path("rename", "/g\0/h\0/i", -6, LedgerFiles::rename),
            path("rename", "/g\0h", -6, LedgerFiles::rename), path("rename", "g\0/h", -6, LedgerFiles::rename),
            path("rename", "\0", -6, LedgerFiles::rename), path("rename", "/g\0", -6, LedgerFiles::rename),
            path("rename", "\0/g", -6, LedgerFiles::rename), path("rename", "/no\0/no/x", -1, LedgerFiles::rename),
            path("rename", "/g/x\0/g/x/y", -3, LedgerFiles::rename), path("rename", "/\0/h", -9, LedgerFiles::rename),
            path("rename", "/\0/", -9, LedgerFiles::rename), path("rename", "/g\0/", -9, LedgerFiles::rename),
            path("rename", "/d\0/d/x", -9, LedgerFiles::rename), path("rename", "/d\0/d/no/x", -9, LedgerFiles::rename),
            path("rename", "/d/f\0/d/f/x", -9, LedgerFiles::rename), path("rename", "/g\0/no/x", -1, LedgerFiles::rename),
            path("rename", "/d\0/g/x", -3, LedgerFiles::rename), path("rename", "/g\0/g", 0, LedgerFiles::rename),
            path("rename", "/d\0/d", 0, LedgerFiles::rename), path("rename", "/e\0/g", -3, LedgerFiles::rename),
            path("rename", "/g\0/e", -4, LedgerFiles::rename), path("rename", "/g\0/d", -4, LedgerFiles::rename),
            path("rename", "/d/f\0/d", -4, LedgerFiles::rename), path("rename", "/e\0/d", -5, LedgerFiles::rename),
            path("link", "/g", -6, LedgerFiles::link), path("link", "/g\0/h\0", -6, LedgerFiles::link),
            path("link", "/no\0/h", -1, LedgerFiles::link), path("link", "/g/x\0/h", -3, LedgerFiles::link),
            path("link", "/d\0/h", -4, LedgerFiles::link), path("link", "/\0/h", -4, LedgerFiles::link),
            path("link", "/g\0/", -9, LedgerFiles::link), path("link", "/g\0/no/h", -1, LedgerFiles::link),
            path("link", "/g\0/g/h", -3, LedgerFiles::link), path("link", "/g\0/g", -2, LedgerFiles::link),
            path("link", "/g\0/e", -2, LedgerFiles::link),
            path("clear", "/d//f", -6, LedgerFiles::clear), path("clear", "/", -9, LedgerFiles::clear),
            path("clear", "/no", -1, LedgerFiles::clear), path("clear", "/g/x", -3, LedgerFiles::clear),
            path("copy", "/g", -6, LedgerFiles::copy), path("copy", "/g\0/h\0", -6, LedgerFiles::copy),
            path("copy", "/no\0/h", -1, LedgerFiles::copy), path("copy", "/g/x\0/h", -3, LedgerFiles::copy),
            path("copy", "/d\0/", -4, LedgerFiles::copy), path("copy", "/g\0/", -9, LedgerFiles::copy),
            path("copy", "/g\0/no/h", -1, LedgerFiles::copy), path("copy", "/g\0/g/h", -3, LedgerFiles::copy),
            path("copy", "/g\0/d/f", -2, LedgerFiles::copy),
            path("find", "", -6, LedgerFiles::find), path("find", "/no", -1, LedgerFiles::find),
            path("find", "/g/x", -3, LedgerFiles::find)};
    }

    private static Case[] wrongFiles() {
        return new Case[] {
            path("write", "a", -11, x -> x.write(6, 0)), path("write", "a", -4, x -> x.write(2, 0)),
            path("write", "a", -10, x -> x.write(3, -1)), path("write", "a", -10, x -> x.write(3, 400000)),
            path("write", "", -10, x -> x.write(3, 400001)), path("write", "", 0, x -> x.write(3, 400000)),
            plain("fill", Kit.ARGUMENT, x -> x.fill(6, -1, 2001, 0)), plain("fill", -11, x -> x.fill(6, -1, 2, 0)),
            plain("fill", -4, x -> x.fill(2, -1, 2, 0)), plain("fill", -10, x -> x.fill(3, 398001, 2000, 0)),
            plain("fill", 0, x -> x.fill(3, 400000, 0, 0)), plain("truncate", -11, x -> x.truncate(0, 0)),
            plain("truncate", -4, x -> x.truncate(1, 0)), plain("truncate", -10, x -> x.truncate(3, 400001)),
            plain("truncate", -10, x -> x.truncate(3, -1)), plain("truncate", 0, x -> x.truncate(3, 700)),
            plain("mark", -11, x -> x.mark(65, 1)), plain("mark", 0, x -> x.mark(1, 9)),
            plain("punch", -11, x -> x.punch(6, 0, 1)), plain("punch", -4, x -> x.punch(5, 0, 1)),
            plain("punch", -10, x -> x.punch(3, -1, 1)), plain("punch", -10, x -> x.punch(3, 0, -1)),
            plain("punch", -10, x -> x.punch(3, 1, 400000)), plain("punch", 0, x -> x.punch(3, 0, 0)),
            plain("punch", -10, x -> x.punch(3, 400001, 0)), plain("punch", 0, x -> x.punch(3, 400000, 0)),
            plain("punch behind the size", 0, x -> x.punch(3, 700, 300000)),
            plain("punch of holes", 0, x -> x.punch(4, 0, 1900)),
            plain("hold", -11, x -> x.hold(6)), plain("release", -11, x -> x.release(6)),
            plain("release", -9, x -> x.release(3)), plain("read", -1, x -> x.read(3, 700)),
            plain("read", -1, x -> x.read(3, -1)), plain("read", -1, x -> x.read(2, 0)),
            plain("read", -1, x -> x.read(6, 0)), plain("read", -1, x -> x.read(0, 0)),
            plain("about", Kit.ARGUMENT, x -> x.about(6, 7)), plain("about", Kit.ARGUMENT, x -> x.about(1, -1)),
            plain("about", -11, x -> x.about(6, 6)), plain("where", Kit.ARGUMENT, x -> x.where(6, 4168)),
            plain("where", Kit.ARGUMENT, x -> x.where(1, -1)), plain("where", -11, x -> x.where(6, 0)),
            plain("entry", Kit.NO_ELEMENT, x -> x.entry(1, 3)), plain("entry", Kit.NO_ELEMENT, x -> x.entry(3, 0)),
            plain("entry", Kit.NO_ELEMENT, x -> x.entry(6, 0)), plain("entry", Kit.NO_ELEMENT, x -> x.entry(1, -1)),
            plain("letter", Kit.NO_ELEMENT, x -> x.letter(1, 3, 0)),
            plain("letter", Kit.NO_ELEMENT, x -> x.letter(1, 0, -1)),
            plain("letter", Kit.NO_ELEMENT, x -> x.letter(3, 0, 0)), plain("letter", -1, x -> x.letter(1, 0, 1))};
    }

    private static Case[] wrongOthers() {
        return new Case[] {
            path("open", "/g", Kit.ARGUMENT, x -> x.open(3)), path("open", "wrong", Kit.ARGUMENT, x -> x.open(8)),
            path("open", "/g/", -6, x -> x.open(4)), path("open", "/no", -1, x -> x.open(9)),
            path("open", "/no/x", -1, x -> x.open(4)), path("open", "/g/x", -3, x -> x.open(4)),
            path("open", "/d", -4, x -> x.open(13)), path("open", "/", -4, x -> x.open(4)),
            plain("close", -13, x -> x.close(2)), plain("close", -13, x -> x.close(32)),
            plain("close", -13, x -> x.close(-1)), path("put", "a", -13, x -> x.put(2)),
            path("put", "a", -9, x -> x.put(0)), path("put", "", -9, x -> x.put(0)),
            path("put", "", 0, x -> x.put(1)), plain("get", -13, x -> x.get(2)),
            plain("seek", -13, x -> x.seek(2, -1)), plain("seek", -10, x -> x.seek(0, -1)),
            plain("seek", -10, x -> x.seek(0, 400001)), plain("look", Kit.ARGUMENT, x -> x.look(2, 3)),
            plain("look", Kit.ARGUMENT, x -> x.look(0, -1)), plain("look", -13, x -> x.look(2, 0)),
            plain("sync", -11, x -> x.sync(6)), plain("sync", -4, x -> x.sync(1)),
            plain("power", Kit.ARGUMENT, x -> {
                x.power(-2);
                return "";
            }),
            plain("byteAt", Kit.NO_ELEMENT, x -> x.byteAt(128, 0)), plain("byteAt", Kit.NO_ELEMENT, x -> x.byteAt(0, 128)),
            plain("waiting", Kit.NO_ELEMENT, x -> x.waiting(128)), plain("seen", Kit.NO_ELEMENT, x -> x.seen(128, 0)),
            plain("seen", Kit.NO_ELEMENT, x -> x.seen(0, -1)), plain("count", Kit.ARGUMENT, x -> x.count(18)),
            plain("count", Kit.ARGUMENT, x -> x.count(-1))};
    }

    private static void wrongCallsChangeNothing() {
        for (Case[] cases : new Case[][] {wrongNames(), wrongFiles(), wrongOthers()}) {
            for (Case c : cases) {
                ask("(mounted)", some(), c);
                LedgerFiles inGroup = some();
                inGroup.begin();
                Kit.file(inGroup, "/d/new");
                Kit.remove(inGroup, "/d/new");
                ask("(in a group)", inGroup, c);
            }
        }
        ask("(no group)", some(), plain("end", -9, LedgerFiles::end));
        ask("(no group)", some(), plain("undo", -9, LedgerFiles::undo));
        LedgerFiles x = some();
        x.begin();
        ask("(in a group)", x, plain("begin", false, LedgerFiles::begin));
    }

    private static void tapeIsFull() {
        LedgerFiles x = some();
        for (int i = 0; i < 51; i++) {
            x.feed(i, i, i, i, i);
        }
        Kit.due("it would have more than 1,024", x.feed(1, 1, 1, 1, 1), -1);
        Kit.due("nothing comes", x.count(12), 1020);
        Kit.due("more than it has", x.back(1021), -1);
        Kit.due("none go", x.count(12), 1020);
        Kit.due("all that it has", x.back(1020), 0);
    }

    private static void tapeIsUsedUpWhenThePowerFails() {
        OnFiles[] calls = {x -> x.make(false), LedgerFiles::remove, LedgerFiles::rename, LedgerFiles::link,
            LedgerFiles::clear, LedgerFiles::copy, x -> x.open(5)};
        String[] tapes = {"/h", "/g", "/g\0/h", "/g\0/h", "/d", "/g\0/h", "/h"};
        for (int i = 0; i < calls.length; i++) {
            LedgerFiles x = Kit.mounted(128, 8, 1);
            Kit.directory(x, "/d");
            Kit.file(x, "/g");
            OnFiles call = calls[i];
            Kit.tape(x, tapes[i]);
            x.power(0);
            Kit.call("call " + i + " that fails", Kit.POWER, () -> call.run(x));
            Kit.due("its tape", x.count(12), 0);
        }
        LedgerFiles y = Kit.mounted(128, 8, 1);
        Kit.open(y, "/g", 6);
        Kit.tape(y, "bytes");
        y.power(0);
        Kit.call("put() that fails", Kit.POWER, () -> y.put(0));
        Kit.due("its tape", y.count(12), 0);
        y.restart(1);
        y.mount();
        Kit.tape(y, "bytes");
        y.power(0);
        Kit.call("write() that fails", Kit.POWER, () -> y.write(2, 0));
        Kit.due("its tape", y.count(12), 0);
    }

    public static void main(String[] args) {
        notMounted();
        withoutPower();
        withPower();
        wrongCallsChangeNothing();
        tapeIsFull();
        tapeIsUsedUpWhenThePowerFails();
        Kit.done();
    }
}
