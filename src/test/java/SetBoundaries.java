/** DELETE, RENAME, REPRO, GENERATE and VERIFY: "Terms", promises 14 to 18. */
final class SetBoundaries {
    private static final int LEAST = Integer.MIN_VALUE;
    private static final int MOST = Integer.MAX_VALUE;
    private static final int[] NO_SETS = {0, -1, 4, 21, LEAST, MOST};

    private SetBoundaries() {
    }

    /** Sets 1, 2 and 3, named 10, 20 and 30; the second one is guarded. */
    private static LibraryTools house() {
        LibraryTools x = new LibraryTools();
        x.define(10, false);
        x.define(20, true);
        x.define(30, false);
        return x;
    }

    private static void addRecords(LibraryTools x, int set, int records) {
        for (int i = 1; i <= records; i++) {
            x.record(set, 1000 + i);
        }
    }

    @Sentence(words = "DELETE a set: 8 if it is guarded.")
    static void aGuardedSetStays(Checks c) {
        LibraryTools x = house();
        x.generate(2, 2, 7, 1);
        c.due("guarded", x.delete(2), 8);
        c.dueText("it stays", Checks.readSet(x, 2), "20 2 2 1 8");
        c.due("its name is not free", x.define(20, false), -5);
        c.due("not guarded", x.delete(1), 0);
        c.due("guarded by an import", x.import0((byte) 69), 0);
        c.dueText("its bytes", Checks.bring(x, 30, 1, 0), "0 0 3");
        c.due("guarded now", x.delete(3), 8);
    }

    @Sentence(promise = 14, words = "DELETE.")
    static void aDeletedSetIsGone(Checks c) {
        LibraryTools x = house();
        for (int set : NO_SETS) {
            c.due("set " + set, x.delete(set), -2);
        }
        x.generate(3, 2, 7, 1);
        c.due("deleted", x.delete(3), 0);
        c.due("again", x.delete(3), -2);
        c.due("set()", x.set(3, 0), -1);
        c.due("record()", x.record(3, 1), -2);
        c.due("export0()", x.export0(3), -2);
        c.due("verify()", x.verify(3), -2);
        c.due("generate()", x.generate(3, 1, 1, 1), -2);
        c.due("alter()", x.alter(3, 40), -2);
        c.due("repro() from it", x.repro(3, 1), -2);
        c.due("repro() to it", x.repro(1, 3), -2);
        c.due("its name is free", x.define(30, false), 4);
        c.due("the others stay", x.set(1, 0), 10);
        c.due("it counts still", x.count(2), 4);
    }

    @Sentence(words = "RENAME a set: 8 if another one has the name")
    static void aNameOfAnotherIsRefused(Checks c) {
        LibraryTools x = house();
        c.due("a later one's", x.alter(1, 30), 8);
        c.due("an earlier one's", x.alter(3, 10), 8);
        c.due("a guarded one's", x.alter(1, 20), 8);
        c.due("its name stays", x.set(1, 0), 10);
        c.due("its name stays", x.set(3, 0), 30);
        x.delete(3);
        c.due("a gone one's", x.alter(1, 30), 0);
        c.due("its new name", x.set(1, 0), 30);
        c.due("its old name is free", x.alter(2, 10), 0);
        c.due("a guarded one is renamed", x.set(2, 0), 10);
    }

    @Sentence(words = "4 if it has it itself")
    static void itsOwnNameIsNothingToDo(Checks c) {
        LibraryTools x = house();
        c.due("its own", x.alter(1, 10), 4);
        c.due("a guarded one's own", x.alter(2, 20), 4);
        c.due("its name stays", x.set(1, 0), 10);
        x.alter(1, 11);
        c.due("its new one", x.alter(1, 11), 4);
        c.due("its old one", x.alter(1, 10), 0);
    }

    @Sentence(promise = 15, words = "RENAME.")
    static void aRenameWantsASetAndAName(Checks c) {
        LibraryTools x = house();
        for (int set : NO_SETS) {
            c.due("set " + set, x.alter(set, 5), -2);
            c.due("-2 before -4", x.alter(set, 100), -2);
        }
        for (int name : new int[] {-1, 100, LEAST, MOST}) {
            c.due("name " + name, x.alter(1, name), -4);
        }
        c.due("its name stays", x.set(1, 0), 10);
        c.due("name 0", x.alter(1, 0), 0);
        c.due("it is 0", x.set(1, 0), 0);
        c.due("name 99", x.alter(1, 99), 0);
        c.due("it is 99", x.set(1, 0), 99);
    }

    @Sentence(words = "the records that count come behind those that count there")
    static void onlyRecordsThatCountAreCopied(Checks c) {
        LibraryTools x = house();
        x.generate(1, 2, 5, 1);
        x.record(1, 99);
        x.generate(3, 1, 7, 1);
        c.due("repro", x.repro(1, 3), 0);
        x.export0(3);
        c.dueText("three", Checks.octets(x, 16), "69 30 0 3 0 0 0 7 0 0 0 5 0 0 0 6");
        c.dueText("the first one stays", Checks.readSet(x, 1), "10 3 2 0 6");
        c.due("to an empty one", x.repro(1, 2), 0);
        c.dueText("two", Checks.readSet(x, 2), "20 2 2 1 6");
    }

    @Sentence(words = "(what lies behind them there goes)")
    static void whatLiesBehindTheEndMarkGoes(Checks c) {
        LibraryTools x = house();
        x.generate(1, 1, 5, 1);
        x.generate(3, 1, 7, 1);
        addRecords(x, 3, 59);
        c.due("sixty", x.set(3, 1), 60);
        c.due("they take no room", x.repro(1, 3), 0);
        c.dueText("two", Checks.readSet(x, 3), "30 2 2 0 5");
        c.due("the next comes behind", x.record(3, 9), 3);
    }

    @Sentence(words = "its END MARK tells all of them then")
    static void theEndMarkTellsAllThen(Checks c) {
        LibraryTools x = house();
        x.generate(1, 3, 5, 1);
        addRecords(x, 3, 2);
        c.due("repro", x.repro(1, 3), 0);
        c.dueText("three", Checks.readSet(x, 3), "30 3 3 0 7");
        c.due("nothing to verify", x.verify(3), 4);
        c.due("again", x.repro(1, 3), 0);
        c.dueText("six", Checks.readSet(x, 3), "30 6 6 0 7");
    }

    @Sentence(words = "and its guard is not asked")
    static void theGuardIsNotAsked(Checks c) {
        LibraryTools x = house();
        x.generate(1, 1, 5, 1);
        c.due("repro to a guarded one", x.repro(1, 2), 0);
        c.due("generate", x.generate(2, 1, 6, 1), 0);
        c.due("record", x.record(2, 7), 3);
        c.due("verify", x.verify(2), 0);
        c.dueText("three, and still guarded", Checks.readSet(x, 2), "20 3 3 1 7");
        c.due("repro from a guarded one", x.repro(2, 1), 0);
        c.dueText("four, and still not guarded", Checks.readSet(x, 1), "10 4 4 0 7");
    }

    @Sentence(words = "4 if there are none, 8 to itself")
    static void withoutRecordsThatCount4(Checks c) {
        LibraryTools x = house();
        x.generate(3, 1, 7, 1);
        x.record(3, 8);
        c.due("of an empty one", x.repro(1, 3), 4);
        x.record(1, 5);
        c.due("of one without any that count", x.repro(1, 3), 4);
        c.dueText("nothing was to do", Checks.readSet(x, 3), "30 2 1 0 7");
        x.verify(1);
        c.due("of one that counts", x.repro(1, 3), 0);
        LibraryTools y = house();
        y.generate(3, 60, 7, 1);
        c.due("to a full one", y.repro(1, 3), 4);
        c.dueText("it stays full", Checks.readSet(y, 3), "30 60 60 0 66");
    }

    @Sentence(words = "8 to itself")
    static void toItself8(Checks c) {
        LibraryTools x = house();
        c.due("empty", x.repro(1, 1), 8);
        x.generate(1, 2, 7, 1);
        x.record(1, 3);
        c.due("with records", x.repro(1, 1), 8);
        c.dueText("it stays", Checks.readSet(x, 1), "10 3 2 0 8");
        c.due("guarded", x.repro(2, 2), 8);
        c.due("no such set", x.repro(4, 4), -2);
    }

    @Sentence(promise = 16, words = "REPRO.")
    static void aReproWantsTwoSetsAndRoom(Checks c) {
        LibraryTools x = house();
        x.generate(1, 1, 5, 1);
        for (int set : NO_SETS) {
            c.due("from " + set, x.repro(set, 1), -2);
            c.due("to " + set, x.repro(1, set), -2);
        }
        x.generate(3, 59, 1, 1);
        c.due("the 60th", x.repro(1, 3), 0);
        c.dueText("sixty", Checks.readSet(x, 3), "30 60 60 0 5");
        c.due("the 61st", x.repro(1, 3), 12);
        c.dueText("sixty stay", Checks.readSet(x, 3), "30 60 60 0 5");
        c.due("sixty to one", x.repro(3, 1), 12);
        c.due("sixty to none", x.repro(3, 2), 0);
        c.dueText("sixty", Checks.readSet(x, 2), "20 60 60 1 5");
    }

    @Sentence(words = "GENERATE n records (1 .. 60)")
    static void oneToSixtyAreGenerated(Checks c) {
        LibraryTools x = house();
        for (int n : new int[] {0, -1, 61, LEAST, MOST}) {
            c.due("n " + n, x.generate(1, n, 5, 1), -4);
        }
        c.due("none came", x.set(1, 1), 0);
        c.due("n 1", x.generate(1, 1, 5, 1), 0);
        c.dueText("one", Checks.readSet(x, 1), "10 1 1 0 5");
        c.due("n 60", x.generate(3, 60, 1, 1), 0);
        c.dueText("sixty", Checks.readSet(x, 3), "30 60 60 0 60");
    }

    @Sentence(words = "v first, each more by a step")
    static void generatedRecordsWrapAround(Checks c) {
        LibraryTools x = house();
        x.generate(1, 3, MOST - 1, 1);
        x.export0(1);
        c.dueText("over the greatest", Checks.octets(x, 16),
            "69 10 0 3 127 -1 -1 -2 127 -1 -1 -1 -128 0 0 0");
        x.generate(2, 2, LEAST, -1);
        x.export0(2);
        c.dueText("below the least", Checks.octets(x, 12), "69 20 1 2 -128 0 0 0 127 -1 -1 -1");
        x.generate(3, 2, 5, 0);
        x.generate(3, 3, 5, LEAST);
        x.export0(3);
        c.dueText("by 0, by the least", Checks.octets(x, 24),
            "69 30 0 5 0 0 0 5 0 0 0 5 0 0 0 5 -128 0 0 5 0 0 0 5");
    }

    @Sentence(words = "each more by a step, likewise.")
    static void generatedRecordsComeBehindThoseThatCount(Checks c) {
        LibraryTools x = house();
        x.generate(1, 1, 5, 1);
        addRecords(x, 1, 59);
        c.due("59 behind one, over 59 that don't count", x.generate(1, 59, 6, 1), 0);
        c.dueText("sixty", Checks.readSet(x, 1), "10 60 60 0 64");
        addRecords(x, 3, 3);
        c.due("one over three", x.generate(3, 1, 6, 1), 0);
        c.dueText("one", Checks.readSet(x, 3), "30 1 1 0 6");
        c.due("the next comes behind", x.record(3, 9), 2);
    }

    @Sentence(promise = 17, words = "GENERATE.")
    static void aGenerateWantsASetAndRoom(Checks c) {
        LibraryTools x = house();
        for (int set : NO_SETS) {
            c.due("set " + set, x.generate(set, 1, 5, 1), -2);
            c.due("-2 before -4", x.generate(set, 0, 5, 1), -2);
        }
        x.generate(1, 58, 1, 1);
        x.record(1, 77);
        c.due("58 and 3", x.generate(1, 3, 1, 1), 12);
        c.dueText("they stay", Checks.readSet(x, 1), "10 59 58 0 58");
        c.due("58 and 2", x.generate(1, 2, 1, 1), 0);
        c.due("60 and 1", x.generate(1, 1, 1, 1), 12);
        c.due("60 and 60", x.generate(1, 60, 1, 1), 12);
        c.due("60 and 61", x.generate(1, 61, 1, 1), -4);
        c.dueText("sixty stay", Checks.readSet(x, 1), "10 60 60 0 2");
    }

    @Sentence(words = "VERIFY: the END MARK tells all records: 4 if it did.")
    static void verifyTellsAll(Checks c) {
        LibraryTools x = house();
        c.due("of none", x.verify(1), 4);
        x.record(1, 5);
        c.due("of one", x.verify(1), 0);
        c.dueText("it counts", Checks.readSet(x, 1), "10 1 1 0 5");
        c.due("again", x.verify(1), 4);
        x.generate(1, 58, 1, 1);
        c.due("of generated ones", x.verify(1), 4);
        x.record(1, 60);
        c.due("of sixty", x.verify(1), 0);
        c.dueText("they count", Checks.readSet(x, 1), "10 60 60 0 60");
        c.due("again", x.verify(1), 4);
    }

    @Sentence(promise = 18, words = "VERIFY.")
    static void aVerifyWantsASet(Checks c) {
        LibraryTools x = house();
        for (int set : NO_SETS) {
            c.due("set " + set, x.verify(set), -2);
        }
        x.delete(1);
        c.due("one that is gone", x.verify(1), -2);
        c.due("no code", x.greatest(), 0);
    }
}
