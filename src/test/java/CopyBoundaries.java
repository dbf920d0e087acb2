/** COPY and MOVE: "Terms", promises 5 and 6. */
final class CopyBoundaries {
    private static final int LEAST = Integer.MIN_VALUE;
    private static final int MOST = Integer.MAX_VALUE;

    private CopyBoundaries() {
    }

    /** Library 1 keeps, libraries 2 and 3 replace and keep; member 1 is 5 of library 1: "10=AB". */
    private static LibraryTools house() {
        LibraryTools x = new LibraryTools();
        x.library(false);
        x.library(true);
        x.library(false);
        x.member(1, 5);
        Checks.write(x, 1, 10, "AB");
        return x;
    }

    /** The house with so many members, the others in library 3 under the names from 10 on. */
    private static LibraryTools house(int members) {
        LibraryTools x = house();
        for (int i = 1; i < members; i++) {
            x.member(3, 9 + i);
        }
        return x;
    }

    @Sentence(words = "of all members of a library (from lowest names on)")
    static void allAreCopiedFromLowestNamesOn(Checks c) {
        LibraryTools x = house();
        x.member(1, 99);
        x.member(1, 0);
        x.member(1, 98);
        c.due("copy", x.copy(1, 2, -1, -1), 0);
        c.due("name 0", x.find(2, 0), 5);
        c.due("name 5", x.find(2, 5), 6);
        c.due("name 98", x.find(2, 98), 7);
        c.due("name 99", x.find(2, 99), 8);
        c.dueText("lines of 5", Checks.read(x, 6), "10=AB");
        c.dueText("lines of 0", Checks.read(x, 5), "");
    }

    @Sentence(words = "or of one, to a library, under a new name or its own")
    static void oneIsCopiedUnderANameOf0To99(Checks c) {
        LibraryTools x = house();
        x.member(1, 0);
        x.member(1, 99);
        c.due("name 0 as 99", x.copy(1, 2, 0, 99), 0);
        c.due("it is there", x.find(2, 99), 4);
        c.due("name 99 as 0", x.copy(1, 2, 99, 0), 0);
        c.due("it is there", x.find(2, 0), 5);
        c.due("its own name", x.copy(1, 2, 5, -1), 0);
        c.due("it is there", x.find(2, 5), 6);
        c.due("its own name told", x.copy(1, 3, 5, 5), 0);
        c.due("it is there", x.find(3, 5), 7);
        c.due("only those came", x.count(1), 7);
    }

    @Sentence(words = "a member of that name there is replaced (its lines; it keeps its number), if the library replaces")
    static void aReplacedMemberKeepsItsNumber(Checks c) {
        LibraryTools x = house();
        x.member(2, 5);
        Checks.write(x, 2, 1, "OLD");
        Checks.write(x, 2, 10, "LONGER");
        c.due("fewer lines", x.copy(1, 2, 5, -1), 0);
        c.due("its number", x.find(2, 5), 2);
        c.dueText("no old line, no old sign", Checks.read(x, 2), "10=AB");
        Checks.write(x, 1, 10, "C");
        Checks.write(x, 1, 9, "D");
        c.due("more lines", x.copy(1, 2, -1, -1), 0);
        c.dueText("all of them", Checks.read(x, 2), "9=D 10=ABC");
        x.member(1, 6);
        c.due("no lines", x.copy(1, 2, 6, 5), 0);
        c.dueText("none any more", Checks.read(x, 2), "");
        c.due("its number still", x.find(2, 5), 2);
        c.due("none came", x.count(1), 3);
    }

    @Sentence(words = "else the one is left out: 4")
    static void theOneIsLeftOut(Checks c) {
        LibraryTools x = house();
        x.member(3, 5);
        Checks.write(x, 2, 1, "OLD");
        c.due("one", x.copy(1, 3, 5, -1), 4);
        c.dueText("it stays", Checks.read(x, 2), "1=OLD");
        x.member(1, 4);
        x.member(1, 6);
        c.due("one of three", x.copy(1, 3, -1, -1), 4);
        c.dueText("it stays", Checks.read(x, 2), "1=OLD");
        c.due("the one before it came", x.find(3, 4), 5);
        c.due("the one behind it came", x.find(3, 6), 6);
        c.due("all of three", x.copy(1, 3, -1, -1), 4);
        c.due("none came", x.count(1), 6);
    }

    @Sentence(words = "Without any member to copy")
    static void withoutAnyMember8(Checks c) {
        LibraryTools x = house();
        c.due("a library that never had one", x.copy(2, 1, -1, -1), 8);
        c.due("with a new name", x.copy(2, 1, -1, 7), 8);
        c.due("onto itself", x.copy(2, 2, -1, -1), 8);
        x.move(1, 2, 5, -1);
        c.due("a library whose one is gone", x.copy(1, 2, -1, -1), 8);
        c.due("none came", x.count(1), 2);
    }

    @Sentence(words = "(of one: without one of the name): 8")
    static void withoutOneOfTheName8(Checks c) {
        LibraryTools x = house();
        c.due("the name below", x.copy(1, 2, 4, -1), 8);
        c.due("the name above", x.copy(1, 2, 6, -1), 8);
        c.due("name 0", x.copy(1, 2, 0, 7), 8);
        c.due("name 99", x.copy(1, 2, 99, 7), 8);
        x.copy(1, 2, 5, 6);
        c.due("it is only there", x.copy(1, 2, 6, -1), 8);
        c.due("onto itself", x.copy(1, 1, 6, 6), 8);
        x.move(1, 3, 5, -1);
        c.due("it is gone", x.copy(1, 2, 5, -1), 8);
        c.due("none came", x.count(1), 3);
    }

    @Sentence(words = "all with a new name: 8 if there are two and more")
    static void aNewNameIsForOneAlone(Checks c) {
        LibraryTools x = house();
        c.due("one", x.copy(1, 2, -1, 7), 0);
        c.dueText("it came", Checks.read(x, x.find(2, 7)), "10=AB");
        c.due("one, in its own library", x.copy(1, 1, -1, 9), 0);
        c.due("it came once", x.count(1), 3);
        c.due("it came", x.find(1, 9), 3);
        c.due("two", x.copy(1, 2, -1, 8), 8);
        c.due("two, as one of them", x.copy(1, 1, -1, 9), 8);
        c.due("two, as one there", x.copy(1, 2, -1, 7), 8);
        x.member(1, 10);
        c.due("three", x.copy(1, 2, -1, 8), 8);
        c.due("none came", x.count(1), 4);
        x.move(1, 2, 9, -1);
        x.move(1, 2, 10, -1);
        c.due("one again", x.copy(1, 2, -1, 8), 0);
    }

    @Sentence(words = "Room for all that are new is looked at first.")
    static void roomIsLookedAtFirst(Checks c) {
        LibraryTools x = house(77);
        x.member(1, 6);
        c.due("two for two", x.copy(1, 2, -1, -1), 0);
        c.due("the 80th", x.find(2, 6), 80);
        LibraryTools y = house(78);
        y.member(1, 6);
        c.due("one for two", y.copy(1, 2, -1, -1), 12);
        c.due("not even the first came", y.find(2, 5), 0);
        c.due("none came", y.count(1), 79);
        LibraryTools z = house(77);
        z.member(1, 4);
        z.member(1, 6);
        z.member(2, 5);
        c.due("none for two", z.copy(1, 2, -1, -1), 12);
        c.dueText("the third is not replaced", Checks.read(z, 80), "");
    }

    @Sentence(words = "Room for all that are new")
    static void onlyNewOnesTakeRoom(Checks c) {
        LibraryTools x = house(78);
        x.member(1, 10);
        x.member(2, 5);
        c.due("full", x.count(1), 80);
        c.due("replaced", x.copy(1, 2, 5, -1), 0);
        c.dueText("its lines came", Checks.read(x, 80), "10=AB");
        c.due("left out", x.copy(1, 3, 10, -1), 4);
        c.due("onto itself", x.copy(1, 1, -1, -1), 0);
        c.due("new", x.copy(1, 2, 10, -1), 12);
        c.due("new in its own library", x.copy(1, 1, 5, 6), 12);
        c.due("one replaced, one new", x.copy(1, 2, -1, -1), 12);
        c.due("one left out, one new", x.copy(1, 3, -1, -1), 12);
    }

    @Sentence(words = "12 there is no room (it is not done)")
    static void withoutRoomNothingIsDone(Checks c) {
        LibraryTools x = house(78);
        x.member(1, 6);
        x.member(2, 5);
        Checks.write(x, 80, 1, "OLD");
        c.due("one replaced, one new", x.copy(1, 2, -1, -1), 12);
        c.dueText("none is replaced", Checks.read(x, 80), "1=OLD");
        c.due("none came", x.find(2, 6), 0);
        c.due("moved", x.move(1, 2, 6, -1), 12);
        c.due("it is not gone", x.find(1, 6), 79);
        c.due("eighty", x.count(1), 80);
    }

    @Sentence(words = "A member onto itself: 0, nothing changes.")
    static void ontoItselfNothingChanges(Checks c) {
        LibraryTools x = house();
        x.copy(1, 2, 5, -1);
        for (int library = 1; library <= 2; library++) {
            c.due("all", x.copy(library, library, -1, -1), 0);
            c.due("all, with its name", x.copy(library, library, -1, 5), 0);
            c.due("one", x.copy(library, library, 5, -1), 0);
            c.due("one, with its name", x.copy(library, library, 5, 5), 0);
            c.dueText("its lines", Checks.read(x, library), "10=AB");
            c.due("its number", x.find(library, 5), library);
        }
        c.due("none came", x.count(1), 2);
        c.due("the greatest", x.greatest(), 0);
    }

    @Sentence(promise = 5, words = "name NONE all")
    static void noneAsItsNameIsAll(Checks c) {
        LibraryTools x = house();
        x.member(1, 6);
        c.due("all", x.copy(1, 2, LibraryTools.NONE, LibraryTools.NONE), 0);
        c.due("two came", x.count(1), 4);
        c.due("one", x.copy(1, 3, 6, LibraryTools.NONE), 0);
        c.due("one came", x.count(1), 5);
    }

    @Sentence(promise = 5, words = "as NONE their own names")
    static void noneAsNewNameIsTheirOwn(Checks c) {
        LibraryTools x = house();
        x.member(1, 0);
        c.due("all", x.copy(1, 2, -1, LibraryTools.NONE), 0);
        c.due("0", x.find(2, 0), 3);
        c.due("5", x.find(2, 5), 4);
        c.due("as 0 is a new name", x.copy(1, 3, -1, 0), 8);
        c.due("of one as 0", x.copy(1, 3, 5, 0), 0);
        c.due("it is 0 there", x.find(3, 0), 5);
    }

    @Sentence(promise = 5, words = "The CODE; -2, -4.")
    static void aCopyWantsLibrariesAndNames(Checks c) {
        LibraryTools x = house();
        for (int library : new int[] {0, -1, 4, 7, LEAST, MOST}) {
            c.due("from " + library, x.copy(library, 1, 5, -1), -2);
            c.due("to " + library, x.copy(1, library, 5, -1), -2);
            c.due("both", x.copy(library, library, -1, -1), -2);
        }
        for (int name : new int[] {-2, 100, LEAST, MOST}) {
            c.due("name " + name, x.copy(1, 2, name, -1), -4);
            c.due("as " + name, x.copy(1, 2, 5, name), -4);
            c.due("all as " + name, x.copy(1, 2, -1, name), -4);
        }
        c.due("none came", x.count(1), 1);
        c.due("no code", x.greatest(), 0);
    }

    @Sentence(words = "it is gone behind that, if it was copied")
    static void aMovedMemberIsGone(Checks c) {
        LibraryTools x = house();
        c.due("moved", x.move(1, 2, 5, -1), 0);
        c.dueText("its lines came", Checks.read(x, 2), "10=AB");
        c.due("its name", x.find(1, 5), 0);
        c.due("its lines", x.letter(1, 0, -1), -1);
        c.due("to update", x.update(1), -100);
        c.due("to compare as the first", x.compare(1, 2), -2);
        c.due("to compare as the second", x.compare(2, 1), -2);
        c.due("to move again", x.move(1, 2, 5, -1), 8);
        c.due("it counts still", x.count(1), 2);
        x.member(1, 6);
        c.due("the latest one, onto one before it", x.move(1, 2, 6, 5), 0);
        c.due("its name", x.find(1, 6), 0);
        c.due("to update", x.update(3), -100);
        c.dueText("its lines came", Checks.read(x, 2), "");
    }

    @Sentence(words = "MOVE: likewise, of one")
    static void aMoveReplacesOrAdds(Checks c) {
        LibraryTools x = house();
        x.member(2, 0);
        Checks.write(x, 2, 1, "OLD");
        Checks.write(x, 2, 2, "OLD");
        c.due("replaced", x.move(1, 2, 5, 0), 0);
        c.dueText("its lines", Checks.read(x, 2), "10=AB");
        c.due("its number", x.find(2, 0), 2);
        c.due("none came", x.count(1), 2);
        c.due("to a new name in its library", x.move(2, 2, 0, 99), 0);
        c.due("a new number", x.find(2, 99), 3);
        c.due("the old name", x.find(2, 0), 0);
        x.member(2, 98);
        c.due("onto another in its library", x.move(2, 2, 99, 98), 0);
        c.dueText("its lines", Checks.read(x, 4), "10=AB");
        c.due("the old name", x.find(2, 99), 0);
    }

    @Sentence(words = "if it was copied")
    static void whatIsNotCopiedIsNotGone(Checks c) {
        LibraryTools x = house();
        x.member(3, 5);
        x.member(3, 6);
        c.due("left out", x.move(1, 3, 5, -1), 4);
        c.due("left out by its new name", x.move(1, 3, 5, 6), 4);
        c.dueText("it stays", Checks.read(x, x.find(1, 5)), "10=AB");
        c.dueText("the other one stays", Checks.read(x, 2), "");
        c.due("left out in its own library", x.move(3, 3, 5, 6), 4);
        c.due("it stays", x.find(3, 5), 2);
        c.due("none of the name", x.move(1, 3, 6, 5), 8);
        c.due("the other one stays", x.find(3, 5), 2);
    }

    @Sentence(words = "(onto itself: not)")
    static void aMoveOntoItselfLeavesIt(Checks c) {
        LibraryTools x = house();
        x.copy(1, 2, 5, -1);
        for (int library = 1; library <= 2; library++) {
            c.due("its own name", x.move(library, library, 5, -1), 0);
            c.due("its name told", x.move(library, library, 5, 5), 0);
            c.due("its number", x.find(library, 5), library);
            c.dueText("its lines", Checks.read(x, library), "10=AB");
        }
        c.due("none came", x.count(1), 2);
        LibraryTools full = house(80);
        c.due("without room", full.move(1, 1, 5, -1), 0);
        c.due("it is there", full.find(1, 5), 1);
    }

    @Sentence(promise = 6, words = "(NONE as its name is none: -4)")
    static void aMoveWantsOneName(Checks c) {
        LibraryTools x = house();
        c.due("NONE", x.move(1, 2, LibraryTools.NONE, -1), -4);
        c.due("NONE with a new name", x.move(1, 2, LibraryTools.NONE, 5), -4);
        c.due("NONE of an empty library", x.move(2, 1, LibraryTools.NONE, -1), -4);
        c.due("-2 before", x.move(4, 2, LibraryTools.NONE, -1), -2);
        c.due("-2 before", x.move(1, 4, LibraryTools.NONE, -1), -2);
        for (int name : new int[] {-2, 100, LEAST, MOST}) {
            c.due("name " + name, x.move(1, 2, name, -1), -4);
            c.due("as " + name, x.move(1, 2, 5, name), -4);
        }
        for (int library : new int[] {0, -1, 4, 7, LEAST, MOST}) {
            c.due("from " + library, x.move(library, 1, 5, -1), -2);
            c.due("to " + library, x.move(1, library, 5, -1), -2);
        }
        c.due("it stays", x.find(1, 5), 1);
        c.due("no code", x.greatest(), 0);
    }
}
