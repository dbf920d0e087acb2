/** Promises 2 library, 3 member, 4 line, 26 find, 27 letter. */
public final class MembersTest {
    private static final Checks checks = new Checks("members");

    public static void main(String[] args) {
        librariesAreSix();
        membersHaveNames();
        membersAreEighty();
        linesGrowInOrder();
        linesHaveLimits();
        lettersAreTold();
        membersAreFound();
        checks.end();
    }

    private static void librariesAreSix() {
        LibraryTools x = new LibraryTools();
        for (int i = 1; i <= 6; i++) {
            checks.due("library", x.library(i % 2 == 0), i);
        }
        checks.due("the 7th library", x.library(true), -1);
        checks.due("count(0)", x.count(0), 6);
        checks.due("member in the 6th", x.member(6, 0), 1);
        checks.due("member in a 7th", x.member(7, 0), -2);
    }

    private static void membersHaveNames() {
        LibraryTools x = new LibraryTools();
        checks.due("without a library", x.member(1, 0), -2);
        x.library(false);
        x.library(false);
        checks.due("-2 before -4", x.member(3, 100), -2);
        checks.due("library 0", x.member(0, 5), -2);
        checks.due("library -1", x.member(-1, 5), -2);
        checks.due("name 100", x.member(1, 100), -4);
        checks.due("name -1", x.member(1, -1), -4);
        checks.due("name 0", x.member(1, 0), 1);
        checks.due("name 99", x.member(1, 99), 2);
        checks.due("name 99 again", x.member(1, 99), -5);
        checks.due("name 99 elsewhere", x.member(2, 99), 3);
        checks.due("count(1)", x.count(1), 3);
        checks.dueText("no lines", Checks.read(x, 3), "");
    }

    private static void membersAreEighty() {
        LibraryTools x = new LibraryTools();
        x.library(false);
        for (int i = 0; i < 80; i++) {
            checks.due("member", x.member(1, i), i + 1);
        }
        checks.due("the 81st", x.member(1, 80), -1);
        checks.due("-5 before NONE", x.member(1, 7), -5);
        checks.due("-4 before NONE", x.member(1, 100), -4);
        checks.due("count(1)", x.count(1), 80);
        Checks.write(x, 80, 1, "AB");
        checks.dueText("the 80th", Checks.read(x, 80), "1=AB");
    }

    private static void linesGrowInOrder() {
        LibraryTools x = new LibraryTools();
        x.library(false);
        x.member(1, 1);
        Checks.write(x, 1, 20, "BC");
        Checks.write(x, 1, 9999, "~");
        Checks.write(x, 1, 1, " ");
        Checks.write(x, 1, 10, "X");
        Checks.write(x, 1, 20, "D");
        checks.dueText("in the numbers' order", Checks.read(x, 1), "1=  10=X 20=BCD 9999=~");
    }

    private static void linesHaveLimits() {
        LibraryTools x = new LibraryTools();
        x.line(1, 1, 65);
        x.library(false);
        x.member(1, 1);
        x.line(2, 1, 65);
        x.line(0, 1, 65);
        x.line(1, 0, 65);
        x.line(1, 10000, 65);
        x.line(1, 1, 31);
        x.line(1, 1, 127);
        x.line(1, 1, 65 + 256);
        checks.dueText("nothing happened", Checks.read(x, 1), "");
        Checks.write(x, 1, 5, "ABCDEFGHIJKL");
        checks.dueText("ten signs", Checks.read(x, 1), "5=ABCDEFGHIJ");
        for (int i = 0; i < 40; i++) {
            x.line(1, 100 + i, 65);
        }
        checks.due("the 30th line", x.letter(1, 29, -1), 128);
        checks.due("no 31st line", x.letter(1, 30, -1), -1);
        x.line(1, 1, 65);
        checks.due("no new first line", x.letter(1, 0, -1), 5);
        x.line(1, 110, 66);
        checks.due("a sign more when there are 30", x.letter(1, 11, 1), 66);
    }

    private static void lettersAreTold() {
        LibraryTools x = new LibraryTools();
        x.library(false);
        x.member(1, 1);
        Checks.write(x, 1, 7, "AB");
        Checks.write(x, 1, 8, "C");
        checks.due("number", x.letter(1, 0, -1), 7);
        checks.due("first sign", x.letter(1, 0, 0), 65);
        checks.due("second sign", x.letter(1, 0, 1), 66);
        checks.due("no third sign", x.letter(1, 0, 2), -1);
        checks.due("no sign -2", x.letter(1, 0, -2), -1);
        checks.due("no second sign of the next", x.letter(1, 1, 1), -1);
        checks.due("no 11th sign", x.letter(1, 0, 10), -1);
        checks.due("no line 2", x.letter(1, 2, -1), -1);
        checks.due("no line -1", x.letter(1, -1, -1), -1);
        checks.due("no sign of line -1", x.letter(1, -1, 10), -1);
        checks.due("no member 2", x.letter(2, 0, -1), -1);
        checks.due("no member 0", x.letter(0, 0, -1), -1);
    }

    private static void membersAreFound() {
        LibraryTools x = new LibraryTools();
        x.library(false);
        x.library(true);
        x.member(2, 3);
        x.member(1, 3);
        checks.due("find(1, 3)", x.find(1, 3), 2);
        checks.due("find(2, 3)", x.find(2, 3), 1);
        checks.due("find(1, 4)", x.find(1, 4), 0);
        checks.due("find(1, 103)", x.find(1, 103), 0);
        checks.due("find(2, -97)", x.find(2, -97), 0);
        checks.due("find(3, 3)", x.find(3, 3), -2);
        checks.due("find(0, 3)", x.find(0, 3), -2);
        x.move(1, 2, 3, 4);
        checks.due("gone", x.find(1, 3), 0);
        checks.due("moved", x.find(2, 4), 3);
        checks.due("letter of one gone", x.letter(2, 0, -1), -1);
        checks.due("the name is free again", x.member(1, 3), 4);
    }
}
