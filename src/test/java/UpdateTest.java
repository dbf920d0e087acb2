/** Promises 10 change and 11 update. */
public final class UpdateTest {
    private static final Checks checks = new Checks("update");

    public static void main(String[] args) {
        changesAreTaken();
        changesBegin();
        changesHaveLimits();
        numbersMustRise();
        deletionsWantALine();
        thirtyLinesAreTheMost();
        theTextIsEmptyThen();
        checks.end();
    }

    private static LibraryTools house() {
        LibraryTools x = new LibraryTools();
        x.library(false);
        x.member(1, 1);
        Checks.write(x, 1, 10, "A");
        Checks.write(x, 1, 20, "BBBBBBBBBB");
        Checks.write(x, 1, 30, "C");
        return x;
    }

    private static void changesAreTaken() {
        LibraryTools x = house();
        Checks.changeTo(x, 1, "first");
        x.change(10, 0);
        Checks.changeTo(x, 20, "DE");
        Checks.changeTo(x, 25, "new");
        Checks.changeTo(x, 9999, "0123456789");
        checks.due("count(3)", x.count(3), 5);
        checks.due("update", x.update(1), 5);
        checks.dueText("lines", Checks.read(x, 1), "1=first 20=DE 25=new 30=C 9999=0123456789");
        checks.due("an empty text", x.update(1), 5);
        x.change(1, 0);
        x.change(20, 0);
        x.change(25, 0);
        x.change(30, 0);
        x.change(9999, 0);
        checks.due("all go", x.update(1), 0);
        checks.dueText("no lines", Checks.read(x, 1), "");
    }

    private static void changesBegin() {
        LibraryTools x = house();
        Checks.changeTo(x, 40, "0123456789");
        checks.due("ten signs", x.count(3), 1);
        x.change(40, 65);
        checks.due("the 11th begins a new one", x.count(3), 2);
        checks.due("which doesn't rise", x.update(1), -2);
        x.change(10, 0);
        x.change(10, 65);
        checks.due("behind a deletion a new one", x.count(3), 2);
        checks.due("which doesn't rise either", x.update(1), -2);
        x.change(10, 0);
        x.change(10, 0);
        checks.due("two deletions", x.count(3), 2);
        checks.due("don't rise", x.update(1), -2);
        x.change(10, 65);
        x.change(20, 65);
        x.change(10, 65);
        checks.due("only the latest grows", x.count(3), 3);
        checks.due("the third", x.update(1), -3);
        x.change(10, 65);
        x.change(10, 0);
        checks.due("a deletion is a new one", x.count(3), 2);
        x.update(1);
        checks.dueText("nothing changed", Checks.read(x, 1), "10=A 20=BBBBBBBBBB 30=C");
    }

    private static void changesHaveLimits() {
        LibraryTools x = house();
        x.change(0, 65);
        x.change(10000, 65);
        x.change(-1, 0);
        x.change(10000, 0);
        x.change(1, 31);
        x.change(1, 127);
        x.change(1, -1);
        x.change(1, 1);
        checks.due("nothing happened", x.count(3), 0);
        x.change(1, 32);
        x.change(1, 126);
        checks.due("one of two signs", x.count(3), 1);
        for (int i = 2; i <= 30; i++) {
            x.change(100 + i, 65);
        }
        checks.due("twenty", x.count(3), 20);
        x.change(10, 0);
        checks.due("no deletion more", x.count(3), 20);
        x.change(120, 66);
        checks.due("a sign more of the 20th", x.count(3), 20);
        checks.due("update", x.update(1), 23);
        checks.due("the first one's signs", x.letter(1, 0, 1), 126);
        checks.due("the 20th one's number", x.letter(1, 22, -1), 120);
        checks.due("the 20th one's signs", x.letter(1, 22, 1), 66);
    }

    private static void numbersMustRise() {
        LibraryTools x = house();
        Checks.changeTo(x, 5, "X");
        Checks.changeTo(x, 4, "Y");
        Checks.changeTo(x, 3, "Z");
        checks.due("the first that refuses", x.update(1), -2);
        checks.dueText("all is refused", Checks.read(x, 1), "10=A 20=BBBBBBBBBB 30=C");
        checks.due("the text is empty", x.count(3), 0);
    }

    private static void deletionsWantALine() {
        LibraryTools x = house();
        Checks.changeTo(x, 5, "X");
        x.change(10, 0);
        x.change(11, 0);
        checks.due("no line 11", x.update(1), -3);
        checks.dueText("all is refused", Checks.read(x, 1), "10=A 20=BBBBBBBBBB 30=C");
        x.change(9, 0);
        checks.due("no line 9", x.update(1), -1);
        x.change(31, 0);
        checks.due("no line 31", x.update(1), -1);
    }

    private static void thirtyLinesAreTheMost() {
        LibraryTools x = house();
        for (int i = 0; i < 26; i++) {
            x.line(1, 100 + i, 65);
        }
        Checks.changeTo(x, 200, "N");
        checks.due("the 30th", x.update(1), 30);
        Checks.changeTo(x, 10, "R");
        checks.due("replaced", x.update(1), 30);
        Checks.changeTo(x, 10, "S");
        Checks.changeTo(x, 11, "N");
        x.change(20, 0);
        checks.due("a 31st for a while", x.update(1), -2);
        checks.due("all is refused", x.letter(1, 0, 0), 'R');
        x.change(10, 0);
        Checks.changeTo(x, 11, "N");
        checks.due("room made before", x.update(1), 30);
        checks.due("a new first line", x.letter(1, 0, -1), 11);
    }

    private static void theTextIsEmptyThen() {
        LibraryTools x = house();
        Checks.changeTo(x, 11, "N");
        checks.due("no member", x.update(2), -100);
        checks.due("no member 0", x.update(0), -100);
        checks.due("the text stays", x.count(3), 1);
        Checks.changeTo(x, 11, "M");
        checks.due("update", x.update(1), 4);
        checks.due("the text is empty", x.count(3), 0);
        checks.due("both signs came", x.letter(1, 1, 1), 'M');
        checks.due("no code is kept", x.greatest(), 0);
        x.dry(true);
        Checks.changeTo(x, 12, "D");
        checks.due("an update is never dry", x.update(1), 5);
        checks.due("nor is it counted", x.dry(false), 0);
    }
}
