/** Promises 5 copy and 6 move. */
public final class CopyTest {
    private static final Checks checks = new Checks("copy");

    public static void main(String[] args) {
        allComeFromLowestNamesOn();
        theFirstAndLastNameComeToo();
        aReplacingLibraryTakesLines();
        aKeepingLibraryLeavesOut();
        oneComesUnderANewName();
        aNewNameIsForOne();
        ontoItselfNothingChanges();
        roomIsLookedAtFirst();
        codesHaveAnOrder();
        moveLeavesNothing();
        moveStaysWhenLeftOut();
        moveWantsRoom();
        checks.end();
    }

    /** Library 1 keeps and has 5 = "5=D 10=AB" and 3 = "1=C"; library 2 as told. */
    private static LibraryTools house(boolean replaces) {
        LibraryTools x = new LibraryTools();
        x.library(false);
        x.library(replaces);
        x.member(1, 5);
        x.member(1, 3);
        Checks.write(x, 1, 10, "AB");
        Checks.write(x, 1, 5, "D");
        Checks.write(x, 2, 1, "C");
        return x;
    }

    private static void allComeFromLowestNamesOn() {
        LibraryTools x = house(false);
        checks.due("copy all", x.copy(1, 2, -1, -1), 0);
        checks.due("the lower name first", x.find(2, 3), 3);
        checks.due("the higher name then", x.find(2, 5), 4);
        checks.dueText("lines of 3", Checks.read(x, 3), "1=C");
        checks.dueText("lines of 5", Checks.read(x, 4), "5=D 10=AB");
        Checks.write(x, 4, 10, "Z");
        checks.dueText("the old one is apart", Checks.read(x, 1), "5=D 10=AB");
        checks.due("the old ones stay", x.find(1, 5), 1);
        checks.due("count(1)", x.count(1), 4);
        checks.due("a library without members", x.copy(x.library(true), 1, -1, -1), 8);
    }

    private static void theFirstAndLastNameComeToo() {
        LibraryTools x = house(false);
        x.member(1, 99);
        x.member(1, 0);
        checks.due("copy all", x.copy(1, 2, -1, -1), 0);
        checks.due("name 0", x.find(2, 0), 5);
        checks.due("name 99", x.find(2, 99), 8);
    }

    private static void aReplacingLibraryTakesLines() {
        LibraryTools x = house(true);
        x.member(2, 5);
        Checks.write(x, 3, 1, "OLD");
        Checks.write(x, 3, 2, "OLD");
        Checks.write(x, 3, 3, "OLD");
        checks.due("copy all", x.copy(1, 2, -1, -1), 0);
        checks.due("it keeps its number", x.find(2, 5), 3);
        checks.dueText("it has other lines", Checks.read(x, 3), "5=D 10=AB");
        checks.due("the new one", x.find(2, 3), 4);
    }

    private static void aKeepingLibraryLeavesOut() {
        LibraryTools x = house(false);
        x.member(2, 3);
        Checks.write(x, 3, 1, "OLD");
        checks.due("one is left out", x.copy(1, 2, -1, -1), 4);
        checks.dueText("the one that is kept", Checks.read(x, 3), "1=OLD");
        checks.dueText("the one that came", Checks.read(x, x.find(2, 5)), "5=D 10=AB");
        checks.due("all are left out", x.copy(1, 2, -1, -1), 4);
        checks.due("one alone is left out", x.copy(1, 2, 3, -1), 4);
        checks.due("left out by its new name", x.copy(1, 2, 5, 3), 4);
        checks.dueText("still kept", Checks.read(x, 3), "1=OLD");
        checks.due("count(1)", x.count(1), 4);
    }

    private static void oneComesUnderANewName() {
        LibraryTools x = house(true);
        checks.due("of one", x.copy(1, 2, 5, 99), 0);
        checks.dueText("the copy", Checks.read(x, x.find(2, 99)), "5=D 10=AB");
        checks.due("the other one didn't come", x.find(2, 3), 0);
        checks.due("own name didn't come", x.find(2, 5), 0);
        checks.due("onto another in its library", x.copy(2, 2, 99, 0), 0);
        checks.due("a name in no use", x.copy(1, 2, 4, 1), 8);
        checks.due("replaced by its new name", x.copy(1, 2, 3, 99), 0);
        checks.dueText("replaced", Checks.read(x, 3), "1=C");
        checks.dueText("not replaced", Checks.read(x, 4), "5=D 10=AB");
    }

    private static void aNewNameIsForOne() {
        LibraryTools x = house(false);
        checks.due("two with a new name", x.copy(1, 2, -1, 7), 8);
        checks.due("nothing came", x.count(1), 2);
        checks.due("none with a new name", x.copy(2, 1, -1, 7), 8);
        x.move(1, 2, 3, -1);
        checks.due("one with a new name", x.copy(1, 2, -1, 7), 0);
        checks.dueText("it came", Checks.read(x, x.find(2, 7)), "5=D 10=AB");
        checks.due("one with a new name in its library", x.copy(1, 1, -1, 8), 0);
        checks.due("count(1)", x.count(1), 5);
        checks.dueText("it came there", Checks.read(x, x.find(1, 8)), "5=D 10=AB");
        checks.due("now there are two", x.copy(1, 1, -1, 9), 8);
    }

    private static void ontoItselfNothingChanges() {
        LibraryTools x = house(true);
        checks.due("all onto themselves", x.copy(1, 1, -1, -1), 0);
        checks.due("one onto itself", x.copy(1, 1, 5, -1), 0);
        checks.due("one onto itself by name", x.copy(1, 1, 5, 5), 0);
        checks.due("moved onto itself", x.move(1, 1, 5, -1), 0);
        checks.due("moved onto itself by name", x.move(1, 1, 5, 5), 0);
        checks.due("it is there", x.find(1, 5), 1);
        x.copy(1, 2, 5, -1);
        checks.due("where it replaces", x.copy(2, 2, -1, 5), 0);
        checks.due("moved where it replaces", x.move(2, 2, 5, -1), 0);
        checks.dueText("its lines stay", Checks.read(x, 3), "5=D 10=AB");
        checks.due("count(1)", x.count(1), 3);
    }

    private static void roomIsLookedAtFirst() {
        LibraryTools x = house(true);
        x.member(2, 3);
        for (int i = 3; i < 80; i++) {
            x.member(2, 10 + i);
        }
        checks.due("count(1)", x.count(1), 80);
        checks.due("one too many", x.copy(1, 2, -1, -1), 12);
        checks.dueText("nothing is replaced", Checks.read(x, 3), "");
        checks.due("a new name", x.copy(1, 2, 3, 9), 12);
        checks.due("one that isn't new", x.copy(1, 2, 3, -1), 0);
        checks.due("all onto themselves", x.copy(2, 2, -1, -1), 0);
        checks.due("all with a new name", x.copy(1, 2, -1, 9), 8);
        checks.due("12 before 4", x.copy(2, 1, -1, -1), 12);
        checks.due("left out: 4", x.copy(2, 1, 3, -1), 4);
    }

    private static void codesHaveAnOrder() {
        LibraryTools x = house(false);
        checks.due("from 0", x.copy(0, 1, 5, 5), -2);
        checks.due("from 3", x.copy(3, 1, 100, 5), -2);
        checks.due("to 3", x.copy(1, 3, 5, 100), -2);
        checks.due("to -1", x.copy(1, -1, 5, 5), -2);
        checks.due("name 100", x.copy(1, 2, 100, 5), -4);
        checks.due("name -2", x.copy(1, 2, -2, 5), -4);
        checks.due("as 100", x.copy(1, 2, 5, 100), -4);
        checks.due("as -2", x.copy(1, 2, -1, -2), -4);
        checks.due("-4 before 8", x.copy(2, 1, 9, 100), -4);
        checks.due("of -2 and -4 none is kept", x.greatest(), 0);
        checks.due("move name NONE", x.move(1, 2, -1, 5), -4);
        checks.due("move: -2 before -4", x.move(1, 3, -1, 5), -2);
        checks.due("move: from 4", x.move(4, 1, -1, 5), -2);
        checks.due("move name 100", x.move(1, 2, 100, -1), -4);
        checks.due("move as 100", x.move(1, 2, 5, 100), -4);
        checks.due("move of none", x.move(1, 2, 9, -1), 8);
        checks.due("greatest()", x.greatest(), 8);
    }

    private static void moveLeavesNothing() {
        LibraryTools x = house(true);
        checks.due("move", x.move(1, 2, 5, -1), 0);
        checks.due("it is there", x.find(2, 5), 3);
        checks.dueText("with its lines", Checks.read(x, 3), "5=D 10=AB");
        checks.due("it is gone", x.find(1, 5), 0);
        checks.due("its number is gone", x.letter(1, 0, -1), -1);
        checks.due("it can't be compared", x.compare(1, 2), -2);
        checks.due("it can't be updated", x.update(1), -100);
        x.line(1, 1, 65);
        checks.due("once more", x.move(1, 2, 5, -1), 8);
        checks.due("those gone count", x.count(1), 3);
        checks.due("onto another, in its library", x.move(2, 2, 5, 6), 0);
        checks.due("and onto a member there", x.move(1, 2, 3, 6), 0);
        checks.dueText("which has its lines", Checks.read(x, x.find(2, 6)), "1=C");
        checks.due("and its own number", x.find(2, 6), 4);
        checks.due("library 1 is empty", x.copy(1, 2, -1, -1), 8);
    }

    private static void moveStaysWhenLeftOut() {
        LibraryTools x = house(false);
        x.member(2, 5);
        checks.due("left out", x.move(1, 2, 5, -1), 4);
        checks.due("it is still there", x.find(1, 5), 1);
        checks.dueText("the other is kept", Checks.read(x, 3), "");
    }

    private static void moveWantsRoom() {
        LibraryTools x = house(true);
        for (int i = 2; i < 80; i++) {
            x.member(2, 10 + i);
        }
        checks.due("a new one", x.move(1, 2, 5, -1), 12);
        checks.due("it is still there", x.find(1, 5), 1);
        checks.due("onto one", x.move(1, 2, 5, 20), 0);
        checks.due("gone ones take room", x.member(1, 5), -1);
        checks.due("onto itself", x.move(1, 1, 3, -1), 0);
    }
}
