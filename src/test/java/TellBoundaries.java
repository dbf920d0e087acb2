/** Calls that only tell: promises 26 to 29. */
final class TellBoundaries {
    private static final int LEAST = Integer.MIN_VALUE;
    private static final int MOST = Integer.MAX_VALUE;

    private TellBoundaries() {
    }

    /** Libraries 1 and 2; members 1, which is 0 of library 1, and 2, which is 99 of library 2. */
    private static LibraryTools house() {
        LibraryTools x = new LibraryTools();
        x.library(true);
        x.library(true);
        x.member(1, 0);
        x.member(2, 99);
        return x;
    }

    @Sentence(promise = 26, words = "The member of a name in a library; 0 without; -2.")
    static void findTells0WithoutTheName(Checks c) {
        LibraryTools x = house();
        c.due("name 0", x.find(1, 0), 1);
        c.due("name 99", x.find(2, 99), 2);
        c.due("name 0 elsewhere", x.find(2, 0), 0);
        c.due("name 99 elsewhere", x.find(1, 99), 0);
        for (int name : new int[] {-1, 100, 199, -100, LEAST, MOST}) {
            c.due("name " + name, x.find(1, name), 0);
            c.due("name " + name, x.find(2, name), 0);
        }
        x.move(1, 2, 0, 1);
        c.due("one that is gone", x.find(1, 0), 0);
        c.due("where it went", x.find(2, 1), 3);
    }

    @Sentence(promise = 26, words = "-2.")
    static void findWantsALibrary(Checks c) {
        LibraryTools x = house();
        for (int library : new int[] {0, -1, 3, 7, LEAST, MOST}) {
            c.due("library " + library, x.find(library, 0), -2);
            c.due("library " + library, x.find(library, 100), -2);
        }
    }

    @Sentence(promise = 27, words = "The k-th sign of a member's i-th line (k = -1: its number); NONE without.")
    static void letterTellsNoneWithout(Checks c) {
        LibraryTools x = house();
        c.due("without lines", x.letter(1, 0, -1), -1);
        Checks.write(x, 1, 1, "1234567890");
        Checks.write(x, 1, 9999, "A");
        c.due("the first number", x.letter(1, 0, -1), 1);
        c.due("the last number", x.letter(1, 1, -1), 9999);
        c.due("the first sign", x.letter(1, 0, 0), '1');
        c.due("the tenth sign", x.letter(1, 0, 9), '0');
        c.due("the next line's only sign", x.letter(1, 1, 0), 'A');
        for (int k : new int[] {1, 9, 10, -2, LEAST, MOST}) {
            c.due("line 1, sign " + k, x.letter(1, 1, k), -1);
        }
        for (int k : new int[] {10, 11, -2, LEAST, MOST}) {
            c.due("line 0, sign " + k, x.letter(1, 0, k), -1);
        }
        for (int i : new int[] {-1, 2, 29, 30, LEAST, MOST}) {
            c.due("number of line " + i, x.letter(1, i, -1), -1);
            c.due("sign of line " + i, x.letter(1, i, 0), -1);
        }
    }

    @Sentence(promise = 27, words = "NONE without.")
    static void letterWantsAMember(Checks c) {
        LibraryTools x = house();
        Checks.write(x, 1, 1, "A");
        Checks.write(x, 2, 1, "B");
        for (int member : new int[] {0, -1, 3, 80, 81, LEAST, MOST}) {
            c.due("number of member " + member, x.letter(member, 0, -1), -1);
            c.due("sign of member " + member, x.letter(member, 0, 0), -1);
        }
        x.move(1, 2, 0, -1);
        c.due("number of one that is gone", x.letter(1, 0, -1), -1);
        c.due("sign of one that is gone", x.letter(1, 0, 0), -1);
        c.due("where it went", x.letter(3, 0, 0), 'A');
    }

    @Sentence(promise = 27, words = "a member's i-th line")
    static void letterTellsAllThirtyLines(Checks c) {
        LibraryTools x = house();
        for (int i = 1; i <= 30; i++) {
            x.line(1, i, 'A' + i % 26);
        }
        for (int i = 1; i <= 30; i++) {
            c.due("number " + i, x.letter(1, i - 1, -1), i);
            c.due("sign of line " + i, x.letter(1, i - 1, 0), 'A' + i % 26);
        }
        c.due("none behind", x.letter(1, 30, -1), -1);
    }

    @Sentence(promise = 28, words = "4 the latest record that counts (0 without)")
    static void theLatestThatCountsIsTold(Checks c) {
        LibraryTools x = new LibraryTools();
        x.define(7, false);
        c.due("of none", x.set(1, 4), 0);
        x.record(1, 5);
        c.due("of none that count", x.set(1, 4), 0);
        x.verify(1);
        c.due("of one", x.set(1, 4), 5);
        x.record(1, 6);
        c.due("of one that counts", x.set(1, 4), 5);
        x.generate(1, 59, LEAST, 0);
        c.due("of sixty", x.set(1, 4), LEAST);
    }

    @Sentence(promise = 28, words = "what = 0 its name, 1 records, 2 END MARK, 3 1 if it is guarded, else 0")
    static void aSetIsTold(Checks c) {
        LibraryTools x = new LibraryTools();
        x.define(0, true);
        x.define(99, false);
        x.generate(2, 59, 1, 1);
        x.record(2, 7);
        c.dueText("empty and guarded", Checks.readSet(x, 1), "0 0 0 1 0");
        c.dueText("59 of 60, not guarded", Checks.readSet(x, 2), "99 60 59 0 59");
    }

    @Sentence(promise = 28, words = "NONE for others, or without it.")
    static void otherThingsOfASetAreNone(Checks c) {
        LibraryTools x = new LibraryTools();
        x.define(7, true);
        x.define(8, false);
        for (int what : new int[] {-1, 5, 6, LEAST, MOST}) {
            c.due("what " + what, x.set(1, what), -1);
        }
        x.delete(2);
        for (int what = 0; what <= 4; what++) {
            for (int set : new int[] {0, -1, 3, 20, 21, LEAST, MOST}) {
                c.due("set " + set, x.set(set, what), -1);
            }
            c.due("one that is gone", x.set(2, what), -1);
        }
    }

    @Sentence(promise = 29, words = "what = 0 libraries, 1 members told or copied (also those that are gone)")
    static void membersThatAreGoneCount(Checks c) {
        LibraryTools x = house();
        c.due("libraries", x.count(0), 2);
        c.due("told", x.count(1), 2);
        x.member(3, 5);
        x.member(1, 100);
        x.member(1, 0);
        c.due("refused ones", x.count(1), 2);
        x.copy(1, 2, 0, -1);
        c.due("copied", x.count(1), 3);
        x.copy(1, 2, 0, -1);
        c.due("replaced", x.count(1), 3);
        x.move(1, 2, 0, 1);
        c.due("moved, and one gone", x.count(1), 4);
        x.dry(true);
        x.copy(2, 1, -1, -1);
        c.due("dry", x.count(1), 4);
        c.due("libraries still", x.count(0), 2);
    }

    @Sentence(promise = 29, words = "2 sets (also those that are gone)")
    static void setsThatAreGoneCount(Checks c) {
        LibraryTools x = house();
        x.define(1, false);
        x.define(2, false);
        c.due("defined", x.count(2), 2);
        x.define(2, false);
        x.define(100, false);
        c.due("refused ones", x.count(2), 2);
        x.delete(1);
        c.due("one gone", x.count(2), 2);
        Checks.bring(x, 69, 3, 0, 0);
        c.due("imported", x.count(2), 3);
        Checks.bring(x, 69, 3, 0, 0);
        c.due("replaced", x.count(2), 3);
    }

    @Sentence(promise = 29, words = "3 CHANGES of the change text")
    static void changesAreCounted(Checks c) {
        LibraryTools x = house();
        x.change(5, 'A');
        c.due("one", x.count(3), 1);
        x.change(5, 'A');
        c.due("a sign more", x.count(3), 1);
        x.change(5, 0);
        c.due("a deletion", x.count(3), 2);
        x.update(3);
        c.due("no update", x.count(3), 2);
        x.update(1);
        c.due("none then", x.count(3), 0);
    }

    @Sentence(promise = 29, words = "4 differences")
    static void differencesAreCounted(Checks c) {
        LibraryTools x = house();
        x.line(1, 1, 'A');
        x.line(1, 2, 'B');
        x.compare(1, 2);
        c.due("two", x.count(4), 2);
        x.compare(1, 3);
        c.due("no comparison", x.count(4), 2);
        x.compare(2, 2);
        c.due("none", x.count(4), 0);
    }

    @Sentence(promise = 29, words = "5 bytes of an import that came")
    static void bytesOfAnImportAreCounted(Checks c) {
        LibraryTools x = house();
        int[] bytes = {69, 1, 0, 1, 0, 0, 0};
        for (int i = 0; i < bytes.length; i++) {
            x.import0((byte) bytes[i]);
            c.due("byte " + i, x.count(5), i + 1);
        }
        x.import0((byte) 0);
        c.due("behind the last one", x.count(5), 0);
        x.import0((byte) 70);
        c.due("behind one that can't be", x.count(5), 0);
        Checks.bring(x, 69, 100);
        c.due("behind a second that can't be", x.count(5), 0);
    }

    @Sentence(promise = 29, words = "NONE for others.")
    static void otherCountsAreNone(Checks c) {
        LibraryTools x = house();
        for (int what : new int[] {-1, 6, 7, LEAST, MOST}) {
            c.due("count(" + what + ")", x.count(what), -1);
        }
    }
}
