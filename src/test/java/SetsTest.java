/** Promises 12 define, 13 record, 14 delete, 15 alter, 16 repro, 17 generate, 18 verify, 28 set. */
public final class SetsTest {
    private static final Checks checks = new Checks("sets");

    public static void main(String[] args) {
        setsAreDefined();
        recordsCome();
        setsGo();
        setsAreRenamed();
        setsAreAppended();
        recordsAreGenerated();
        setsAreVerified();
        setsAreTold();
        checks.end();
    }

    private static void setsAreDefined() {
        LibraryTools x = new LibraryTools();
        checks.due("name -1", x.define(-1, false), -4);
        checks.due("name 100", x.define(100, false), -4);
        checks.due("name 0", x.define(0, false), 1);
        checks.due("name 99", x.define(99, true), 2);
        checks.due("name 99 again", x.define(99, false), -5);
        checks.dueText("the first", Checks.readSet(x, 1), "0 0 0 0 0");
        checks.dueText("the second", Checks.readSet(x, 2), "99 0 0 1 0");
        for (int i = 3; i <= 20; i++) {
            checks.due("define", x.define(i, false), i);
        }
        checks.due("the 21st", x.define(50, false), -1);
        checks.due("-5 before NONE", x.define(5, false), -5);
        checks.due("-4 before NONE", x.define(100, false), -4);
        x.delete(1);
        checks.due("those gone take room", x.define(0, false), -1);
        checks.due("count(2)", x.count(2), 20);
    }

    private static void recordsCome() {
        LibraryTools x = new LibraryTools();
        checks.due("without a set", x.record(1, 5), -2);
        x.define(1, true);
        checks.due("set 0", x.record(0, 5), -2);
        for (int i = 1; i <= 60; i++) {
            checks.due("record", x.record(1, -i), i);
        }
        checks.due("the 61st", x.record(1, 5), -1);
        checks.dueText("the END MARK stays", Checks.readSet(x, 1), "1 60 0 1 0");
        x.verify(1);
        checks.dueText("the END MARK at the end", Checks.readSet(x, 1), "1 60 60 1 -60");
    }

    private static void setsGo() {
        LibraryTools x = new LibraryTools();
        checks.due("without a set", x.delete(1), -2);
        x.define(1, true);
        x.define(2, false);
        checks.due("guarded", x.delete(1), 8);
        checks.due("it is there", x.set(1, 0), 1);
        checks.due("not guarded", x.delete(2), 0);
        checks.due("gone", x.delete(2), -2);
        checks.due("no record", x.record(2, 1), -2);
        checks.due("no rename", x.alter(2, 5), -2);
        checks.due("no repro from it", x.repro(2, 1), -2);
        checks.due("no repro to it", x.repro(1, 2), -2);
        checks.due("no generate", x.generate(2, 1, 1, 1), -2);
        checks.due("no verify", x.verify(2), -2);
        checks.due("no export", x.export0(2), -2);
        checks.due("nothing to tell", x.set(2, 1), -1);
        checks.due("the name is free", x.define(2, false), 3);
        checks.due("count(2)", x.count(2), 3);
        checks.due("set 0", x.delete(0), -2);
        checks.due("set 21", x.delete(21), -2);
        checks.due("greatest()", x.greatest(), 8);
    }

    private static void setsAreRenamed() {
        LibraryTools x = new LibraryTools();
        x.define(1, true);
        x.define(2, false);
        checks.due("-2 before -4", x.alter(3, 100), -2);
        checks.due("name 100", x.alter(1, 100), -4);
        checks.due("name -1", x.alter(1, -1), -4);
        checks.due("another one's", x.alter(1, 2), 8);
        checks.due("its own", x.alter(1, 1), 4);
        checks.due("a guarded one", x.alter(1, 99), 0);
        checks.due("its new name", x.set(1, 0), 99);
        checks.due("the old name is free", x.alter(2, 1), 0);
        x.delete(2);
        checks.due("a gone one's name is free", x.alter(1, 1), 0);
    }

    private static void setsAreAppended() {
        LibraryTools x = new LibraryTools();
        x.define(1, false);
        x.define(2, true);
        x.generate(1, 3, 10, 1);
        x.record(1, 99);
        x.generate(2, 2, 20, 1);
        x.record(2, 77);
        x.record(2, 78);
        checks.due("-2", x.repro(1, 3), -2);
        checks.due("-2 from", x.repro(0, 1), -2);
        checks.due("onto itself", x.repro(1, 1), 8);
        checks.due("onto a guarded one", x.repro(1, 2), 0);
        checks.dueText("only those that count", Checks.readSet(x, 2), "2 5 5 1 12");
        checks.dueText("the source stays", Checks.readSet(x, 1), "1 4 3 0 12");
        checks.due("export", x.export0(2), 24);
        checks.dueText("its records", Checks.octets(x, 24), "69 2 1 5 0 0 0 20 0 0 0 21 0 0 0 10 0 0 0 11 0 0 0 12");
        x.define(3, false);
        x.record(3, 1);
        x.record(2, 5);
        checks.due("none that count", x.repro(3, 2), 4);
        checks.dueText("nothing to do", Checks.readSet(x, 2), "2 6 5 1 12");
        checks.due("empty onto itself", x.repro(3, 3), 8);
        x.generate(3, 55, 0, 0);
        checks.due("60 are room enough", x.repro(2, 3), 0);
        checks.dueText("sixty", Checks.readSet(x, 3), "3 60 60 0 12");
        checks.due("no room", x.repro(1, 3), 12);
        checks.due("none that count into a full one", x.repro(x.define(4, false), 3), 4);
    }

    private static void recordsAreGenerated() {
        LibraryTools x = new LibraryTools();
        x.define(1, true);
        checks.due("-2 before -4", x.generate(2, 0, 1, 1), -2);
        checks.due("n 0", x.generate(1, 0, 1, 1), -4);
        checks.due("n 61", x.generate(1, 61, 1, 1), -4);
        checks.due("n -1", x.generate(1, -1, 1, 1), -4);
        x.record(1, 5);
        checks.due("what lies behind goes", x.generate(1, 1, 7, 3), 0);
        checks.dueText("one", Checks.readSet(x, 1), "1 1 1 1 7");
        checks.due("with wrap-around", x.generate(1, 3, Integer.MAX_VALUE, 1), 0);
        checks.dueText("four", Checks.readSet(x, 1), "1 4 4 1 " + (Integer.MIN_VALUE + 1));
        checks.due("export", x.export0(1), 20);
        checks.dueText("records", Checks.octets(x, 20), "69 1 1 4 0 0 0 7 127 -1 -1 -1 -128 0 0 0 -128 0 0 1");
        checks.due("57 are too many", x.generate(1, 57, 0, -2), 12);
        checks.due("four stay", x.set(1, 1), 4);
        checks.due("56 are not", x.generate(1, 56, 0, -2), 0);
        checks.dueText("sixty", Checks.readSet(x, 1), "1 60 60 1 -110");
        x.define(2, false);
        for (int i = 0; i < 60; i++) {
            x.record(2, i);
        }
        checks.due("60 that don't count take no room", x.generate(2, 60, 1, 0), 0);
        checks.dueText("sixty others", Checks.readSet(x, 2), "2 60 60 0 1");
    }

    private static void setsAreVerified() {
        LibraryTools x = new LibraryTools();
        checks.due("without a set", x.verify(1), -2);
        x.define(1, true);
        checks.due("an empty one", x.verify(1), 4);
        x.record(1, 3);
        x.record(1, 4);
        checks.due("the mark moves", x.verify(1), 0);
        checks.dueText("two count", Checks.readSet(x, 1), "1 2 2 1 4");
        checks.due("it did", x.verify(1), 4);
        x.record(1, 5);
        checks.dueText("the mark stays", Checks.readSet(x, 1), "1 3 2 1 4");
    }

    private static void setsAreTold() {
        LibraryTools x = new LibraryTools();
        x.define(9, false);
        x.generate(1, 2, -7, 1);
        checks.dueText("told", Checks.readSet(x, 1), "9 2 2 0 -6");
        checks.due("what 5", x.set(1, 5), -1);
        checks.due("what -1", x.set(1, -1), -1);
        checks.due("set 0", x.set(0, 0), -1);
        checks.due("set 2", x.set(2, 0), -1);
        checks.due("set -1", x.set(-1, 0), -1);
    }
}
