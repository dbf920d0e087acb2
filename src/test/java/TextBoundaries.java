/** COMPARING, the CHANGE TEXT and UPDATING: "Terms", promises 7 to 11. */
final class TextBoundaries {
    private static final int LEAST = Integer.MIN_VALUE;
    private static final int MOST = Integer.MAX_VALUE;
    private static final int[] NO_MEMBERS = {0, -1, 3, 81, LEAST, MOST};

    private TextBoundaries() {
    }

    /** Members 1 and 2 of a sign a line, numbered 1, 2 .. and 101, 102 .. */
    private static LibraryTools house(String first, String second) {
        LibraryTools x = new LibraryTools();
        x.library(true);
        x.member(1, 1);
        x.member(1, 2);
        for (int i = 0; i < first.length(); i++) {
            x.line(1, i + 1, first.charAt(i));
        }
        for (int i = 0; i < second.length(); i++) {
            x.line(2, i + 101, second.charAt(i));
        }
        return x;
    }

    private static void told(Checks c, String first, String second, int ahead, String want) {
        LibraryTools x = house(first, second);
        x.ahead(ahead);
        String call = first + " with " + second + " ahead " + ahead;
        c.due(call, x.compare(1, 2), want.isEmpty() ? 0 : want.split(" ").length);
        c.dueText(call, Checks.differences(x), want);
    }

    /** Member 1 with so many lines, numbered 10, 20 .., and two libraries. */
    private static LibraryTools withLines(int lines) {
        LibraryTools x = new LibraryTools();
        x.library(true);
        x.library(true);
        x.member(1, 1);
        for (int i = 1; i <= lines; i++) {
            x.line(1, 10 * i, 'A');
        }
        return x;
    }

    @Sentence(words = "COMPARING two members line by line, by their signs: alike ones are passed.")
    static void linesAreAlikeByTheirSigns(Checks c) {
        told(c, "ABC", "ABC", 3, "");
        LibraryTools x = house("", "");
        Checks.write(x, 1, 1, "1234567890");
        Checks.write(x, 2, 9999, "1234567890");
        c.due("ten signs, other numbers", x.compare(1, 2), 0);
        x = house("", "");
        Checks.write(x, 1, 1, "123456789");
        Checks.write(x, 2, 1, "1234567890");
        c.due("a sign fewer", x.compare(1, 2), 1);
        c.due("a sign more", x.compare(2, 1), 1);
        x = house("", "");
        Checks.write(x, 1, 1, "123456789A");
        Checks.write(x, 2, 1, "123456789B");
        c.due("another last sign", x.compare(1, 2), 1);
        x = house("", "");
        Checks.write(x, 1, 1, "A234");
        Checks.write(x, 2, 1, "B234");
        c.due("another first sign", x.compare(1, 2), 1);
    }

    @Sentence(words = "line by line, by their signs")
    static void onlyTheSignsOfTheLineCount(Checks c) {
        LibraryTools x = house("", "");
        Checks.write(x, 1, 1, "1234567890");
        Checks.write(x, 1, 2, "X");
        Checks.write(x, 2, 1, "1234567890");
        Checks.write(x, 2, 2, "Y");
        c.due("ten signs before others", x.compare(1, 2), 1);
        c.dueText("only the others", Checks.differences(x), "3:2/2");
        x = house("ABCDEFGHIJKLMNOPQRSTUVWXYZ123", "ABCDEFGHIJKLMNOPQRSTUVWXYZ123");
        Checks.write(x, 1, 30, "1234567890");
        Checks.write(x, 2, 130, "1234567890");
        c.due("ten signs of the 30th line", x.compare(1, 2), 0);
        x = house("", "A");
        Checks.write(x, 1, 1, "ABC");
        x.change(1, 'A');
        x.update(1);
        c.due("a line that was longer", x.compare(1, 2), 0);
        x.copy(1, 1, 2, 1);
        c.due("a copy", x.compare(1, 2), 0);
    }

    @Sentence(words = "alike ones are passed. Else")
    static void allLinesOfLongMembersAreCompared(Checks c) {
        // Of three lines each, one is left here, two are passed and one is left there.
        LibraryTools x = house("xABxABxABxABxABxABxABxABxABxAB", "AyBAyBAyBAyBAyBAyBAyBAyBAyBAyB");
        c.due("how many", x.compare(1, 2), 20);
        for (int i = 0; i < 10; i++) {
            c.due("of the first", x.differ(2 * i, 1), 3 * i + 1);
            c.due("of the second", x.differ(2 * i + 1, 2), 3 * i + 102);
        }
    }

    @Sentence(words = "for 1, 2, .. up to the LOOK-AHEAD (3 at first) lines in all")
    static void asManyLinesAsTheLookAheadAreLeft(Checks c) {
        LibraryTools x = house("XYZA", "A");
        c.due("three at first", x.compare(1, 2), 3);
        c.dueText("three are left", Checks.differences(x), "1:1/0 1:2/0 1:3/0");
        x = house("WXYZA", "A");
        c.due("not four at first", x.compare(1, 2), 5);
        c.dueText("none is left", Checks.differences(x), "3:1/101 1:2/0 1:3/0 1:4/0 1:5/0");
        told(c, "A", "XYZA", 3, "2:0/101 2:0/102 2:0/103");
        told(c, "A", "WXYZA", 3, "3:1/101 2:0/102 2:0/103 2:0/104 2:0/105");
        told(c, "PQA", "XA", 3, "1:1/0 1:2/0 2:0/101");
        told(c, "PQA", "XA", 2, "3:1/101 1:2/0");
        told(c, "PA", "XYA", 3, "1:1/0 2:0/101 2:0/102");
        told(c, "PQA", "XYA", 3, "3:1/101 1:2/0 2:0/102");
    }

    @Sentence(words = "some of the first one's and the others of the second one's are left")
    static void theFewestInAllAreLeft(Checks c) {
        // One of the first one's would do, and so would two of the second one's.
        told(c, "BA", "AXB", 3, "1:1/0 2:0/102 2:0/103");
        // Two of the first one's would do, and so would three of the second one's.
        told(c, "BQD", "DXYB", 3, "1:1/0 1:2/0 2:0/102 2:0/103 2:0/104");
    }

    @Sentence(words = "are left, the fewest")
    static void linesThatWerePassedAreNotMetAgain(Checks c) {
        told(c, "AB", "AXYA", 3, "3:2/102 2:0/103 2:0/104");
        told(c, "AXYA", "AB", 3, "3:2/102 1:3/0 1:4/0");
        told(c, "ABC", "XAYZCAA", 3, "2:0/101 1:2/0 2:0/103 2:0/104 2:0/106 2:0/107");
    }

    @Sentence(words = "the fewest of the first one's at first")
    static void theFewestOfTheFirstAreLeft(Checks c) {
        told(c, "AB", "BA", 1, "2:0/101 1:2/0");
        told(c, "AB", "BA", 9, "2:0/101 1:2/0");
        // Two in all: none of the first one's before one, and none or one before two.
        told(c, "PQ", "XQP", 2, "2:0/101 2:0/102 1:2/0");
        told(c, "PQX", "XRP", 2, "2:0/101 2:0/102 1:2/0 1:3/0");
        told(c, "PQR", "RQ", 2, "1:1/0 2:0/101 1:3/0");
    }

    @Sentence(words = "so that both have a next line, and these are alike")
    static void bothMustHaveANextLine(Checks c) {
        told(c, "A", "B", 9, "3:1/101");
        told(c, "AX", "B", 9, "3:1/101 1:2/0");
        told(c, "A", "BX", 9, "3:1/101 2:0/102");
        told(c, "AX", "BY", 9, "3:1/101 3:2/102");
        told(c, "AX", "BX", 2, "1:1/0 2:0/101");
        told(c, "AX", "X", 1, "1:1/0");
        told(c, "X", "BX", 1, "2:0/101");
    }

    @Sentence(words = "those left are DIFFERENCES of kind 1 (of the first alone) and then 2 (of the second alone)")
    static void theFirstOnesComeBeforeTheSecondOnes(Checks c) {
        told(c, "PQA", "XYA", 4, "1:1/0 1:2/0 2:0/101 2:0/102");
        told(c, "PA", "XYA", 3, "1:1/0 2:0/101 2:0/102");
        told(c, "PQA", "A", 3, "1:1/0 1:2/0");
        told(c, "A", "XYA", 3, "2:0/101 2:0/102");
    }

    @Sentence(words = "Else both lines are one of kind 3.")
    static void elseBothAreOneOfKind3(Checks c) {
        told(c, "AM", "BM", 0, "3:1/101");
        told(c, "AM", "BM", 1, "3:1/101");
        told(c, "AB", "BA", 0, "3:1/101 3:2/102");
        told(c, "AAA", "BBB", 9, "3:1/101 3:2/102 3:3/103");
    }

    @Sentence(words = "When one has no more, the other one's rest are of kind 1 or 2.")
    static void restsAreOfKind1Or2(Checks c) {
        told(c, "", "", 3, "");
        told(c, "AB", "", 3, "1:1/0 1:2/0");
        told(c, "", "AB", 3, "2:0/101 2:0/102");
        told(c, "ABC", "A", 3, "1:2/0 1:3/0");
        told(c, "A", "ABC", 3, "2:0/102 2:0/103");
        told(c, "AB", "AB", 3, "");
        told(c, "AB", "X", 0, "3:1/101 1:2/0");
    }

    @Sentence(promise = 7, words = "Compares two members: how many differences; -2.")
    static void aComparisonWantsTwoMembers(Checks c) {
        LibraryTools x = house("AB", "A");
        c.due("one", x.compare(1, 2), 1);
        for (int member : NO_MEMBERS) {
            c.due("first " + member, x.compare(member, 1), -2);
            c.due("second " + member, x.compare(1, member), -2);
        }
        c.due("both", x.compare(3, 3), -2);
        c.dueText("the latest stays", Checks.differences(x), "1:2/0");
        c.due("with itself", x.compare(1, 1), 0);
        c.due("count(4)", x.count(4), 0);
    }

    @Sentence(promise = 7, words = "(At most 60 lines, so at most 60 are kept.)")
    static void manyDifferencesAreKept(Checks c) {
        // Four or five lines are left of each before both meet: more differences than lines of one.
        String first = "1234A12345B1234C12345D1234E12F";
        String second = "6789vAwxyzB67890CwxyzDvwxyzE6F";
        LibraryTools x = house(first, second);
        x.ahead(9);
        c.due("how many", x.compare(1, 2), 48);
        c.due("count(4)", x.count(4), 48);
        c.due("the first", x.differ(0, 1), 1);
        c.due("the last one's kind", x.differ(47, 0), 2);
        c.due("the last one's line", x.differ(47, 2), 129);
        c.due("none behind", x.differ(48, 0), -1);
        LibraryTools y = house("ABCDEFGHIJKLMNOPQRSTUVWXYZ1234", "");
        c.due("thirty of the first", y.compare(1, 2), 30);
        c.due("the 30th", y.differ(29, 1), 30);
        c.due("thirty of the second", y.compare(2, 1), 30);
        c.due("the 30th", y.differ(29, 2), 30);
        c.due("none behind", y.differ(30, 0), -1);
    }

    @Sentence(promise = 8, words = "Of the i-th difference of the latest compare(), from 0 on")
    static void differencesAreToldFrom0On(Checks c) {
        LibraryTools x = house("AB", "");
        c.due("before any", x.differ(0, 0), -1);
        x.compare(1, 2);
        c.due("the 0th", x.differ(0, 1), 1);
        c.due("the 1st", x.differ(1, 1), 2);
        for (int i : new int[] {-1, 2, 59, 60, LEAST, MOST}) {
            for (int what = 0; what <= 2; what++) {
                c.due("differ(" + i + ", " + what + ")", x.differ(i, what), -1);
            }
        }
        x.line(1, 3, 'C');
        c.due("the latest, not a new one", x.differ(2, 0), -1);
        x.compare(1, 1);
        c.due("the latest one has none", x.differ(0, 0), -1);
    }

    @Sentence(promise = 8, words = "(0 without). NONE without.")
    static void aDifferenceWithoutALineTells0(Checks c) {
        LibraryTools x = house("AB", "");
        x.compare(1, 2);
        c.due("no line of the second", x.differ(0, 2), 0);
        x.compare(2, 1);
        c.due("no line of the first", x.differ(0, 1), 0);
        for (int what : new int[] {-1, 3, LEAST, MOST}) {
            c.due("what " + what, x.differ(0, what), -1);
        }
    }

    @Sentence(promise = 9, words = "The look-ahead becomes n (0 .. 9): what it was; -4.")
    static void theLookAheadGoesFrom0To9(Checks c) {
        LibraryTools x = house("ABCDEFGHIJ", "J");
        c.due("3 at first", x.ahead(9), 3);
        c.due("nine are left", x.compare(1, 2), 9);
        for (int n : new int[] {-1, 10, LEAST, MOST}) {
            c.due("ahead(" + n + ")", x.ahead(n), -4);
        }
        c.due("it stays 9", x.ahead(0), 9);
        c.due("none is left", x.compare(1, 2), 10);
        c.due("it was 0", x.ahead(1), 0);
        c.due("it was 1", x.ahead(1), 1);
        told(c, "ABCDEFGHIJK", "K", 9, "3:1/101 1:2/0 1:3/0 1:4/0 1:5/0 1:6/0 1:7/0 1:8/0 1:9/0 1:10/0 1:11/0");
        told(c, "A", "A", 0, "");
        told(c, "XA", "A", 0, "3:1/101 1:2/0");
        told(c, "XA", "A", 1, "1:1/0");
    }

    @Sentence(promise = 10, words = "if it has that number and isn't a DELETION, and fewer than 10; else a new one begins")
    static void aChangeHasTenSigns(Checks c) {
        LibraryTools x = withLines(0);
        Checks.changeTo(x, 5, "123456789");
        x.change(5, '0');
        c.due("the 10th", x.count(3), 1);
        c.due("update", x.update(1), 1);
        c.dueText("ten", Checks.read(x, 1), "5=1234567890");
        Checks.changeTo(x, 5, "1234567890A");
        c.due("the 11th", x.count(3), 2);
        c.due("it doesn't rise", x.update(1), -2);
        x.change(5, 'A');
        x.change(6, 'B');
        c.due("another number", x.count(3), 2);
        x.change(5, 'C');
        c.due("only the latest goes on", x.count(3), 3);
        c.due("it doesn't rise", x.update(1), -3);
    }

    @Sentence(promise = 10, words = "isn't a DELETION")
    static void aDeletionTakesNoSigns(Checks c) {
        LibraryTools x = withLines(1);
        x.change(10, 0);
        x.change(10, 'A');
        c.due("a sign behind a deletion", x.count(3), 2);
        c.due("it doesn't rise", x.update(1), -2);
        c.due("the line stays", x.letter(1, 0, -1), 10);
    }

    @Sentence(promise = 10, words = "c 0: a new DELETION.")
    static void aDeletionIsAlwaysNew(Checks c) {
        LibraryTools x = withLines(2);
        x.change(10, 0);
        c.due("the first", x.count(3), 1);
        x.change(10, 0);
        c.due("again", x.count(3), 2);
        x.update(1);
        x.change(10, 'A');
        x.change(10, 0);
        c.due("behind a sign", x.count(3), 2);
        c.due("it doesn't rise", x.update(1), -2);
        x.change(10, 0);
        x.change(20, 'B');
        c.due("it deletes", x.update(1), 1);
        c.dueText("the other line", Checks.read(x, 1), "20=B");
    }

    @Sentence(promise = 10, words = "A sign more (c 32 .. 126)")
    static void aChangesSignsGoFrom32To126(Checks c) {
        LibraryTools x = withLines(0);
        for (int sign : new int[] {32, 31, 126, 127, 1, -1, 128, 256, 256 + 'A', LEAST, MOST}) {
            x.change(5, sign);
            if (sign != 32 && sign != 126) {
                x.change(6, sign);
            }
        }
        c.due("one change", x.count(3), 1);
        x.update(1);
        c.dueText("two signs", Checks.read(x, 1), "5= ~");
    }

    @Sentence(promise = 10, words = "Nothing happens by other c, numbers outside, or behind 20.")
    static void aChangesNumbersGoFrom1To9999(Checks c) {
        LibraryTools x = withLines(0);
        for (int number : new int[] {0, -1, 10000, LEAST, MOST}) {
            x.change(number, 'A');
            x.change(number, 0);
        }
        c.due("nothing", x.count(3), 0);
        x.change(1, 'A');
        x.change(9999, 'B');
        c.due("two", x.update(1), 2);
        c.dueText("at the ends", Checks.read(x, 1), "1=A 9999=B");
        x.change(1, 0);
        x.change(9999, 0);
        c.due("deletions, too", x.update(1), 0);
    }

    @Sentence(words = "at most 20.")
    static void theChangeTextHasTwentyChanges(Checks c) {
        LibraryTools x = withLines(0);
        for (int i = 1; i <= 19; i++) {
            x.change(i, 'A');
        }
        x.change(20, 'A');
        c.due("the 20th", x.count(3), 20);
        x.change(21, 'A');
        x.change(22, 0);
        x.change(20, 0);
        c.due("the 21st", x.count(3), 20);
        x.change(20, 'B');
        c.due("a sign more of the 20th", x.count(3), 20);
        c.due("update", x.update(1), 20);
        c.due("the 20th one's number", x.letter(1, 19, -1), 20);
        c.dueText("the 20th one's signs", Checks.readLine(x, 1, 19), "AB");
        x.change(1, 'C');
        c.due("there is room again", x.count(3), 1);
    }

    @Sentence(promise = 10, words = "or behind 20")
    static void behindTwentyNothingHappens(Checks c) {
        LibraryTools x = withLines(20);
        for (int i = 1; i <= 20; i++) {
            x.change(10 * i, 0);
        }
        x.change(200, 'A');
        c.due("a sign behind the 20th, a deletion", x.count(3), 20);
        c.due("update", x.update(1), 0);
        for (int i = 1; i <= 20; i++) {
            x.change(i, 'A');
        }
        Checks.changeTo(x, 20, "BCDEFGHIJKLM");
        c.due("the 11th sign of the 20th", x.count(3), 20);
        c.due("update", x.update(1), 20);
        c.dueText("ten signs", Checks.readLine(x, 1, 19), "ABCDEFGHIJ");
    }

    @Sentence(words = "their numbers must rise")
    static void theNumbersMustRise(Checks c) {
        LibraryTools x = withLines(2);
        x.change(5, 'A');
        x.change(4, 'A');
        c.due("one less", x.update(1), -2);
        x.change(10, 0);
        x.change(10, 0);
        c.due("the same", x.update(1), -2);
        x.change(20, 'A');
        x.change(10, 0);
        c.due("a deletion of less", x.update(1), -2);
        c.dueText("nothing changed", Checks.read(x, 1), "10=A 20=A");
        x.change(5, 'A');
        x.change(6, 'A');
        c.due("one more", x.update(1), 4);
    }

    @Sentence(words = "a DELETION's line must be there")
    static void aDeletionWantsItsLine(Checks c) {
        LibraryTools x = withLines(3);
        for (int number : new int[] {1, 9, 11, 19, 31, 9999}) {
            x.change(number, 0);
            c.due("no line " + number, x.update(1), -1);
        }
        c.dueText("nothing changed", Checks.read(x, 1), "10=A 20=A 30=A");
        x.change(10, 0);
        x.change(30, 0);
        c.due("the first and the last", x.update(1), 1);
        c.dueText("the other one", Checks.read(x, 1), "20=A");
        x.change(20, 0);
        c.due("the only one", x.update(1), 0);
        x.change(20, 0);
        c.due("of none", x.update(1), -1);
    }

    @Sentence(words = "there must not be more than 30 lines then (behind each CHANGE, in order)")
    static void thirtyLinesBehindEachChange(Checks c) {
        LibraryTools x = withLines(29);
        x.change(11, 'N');
        c.due("the 30th", x.update(1), 30);
        x.change(12, 'N');
        c.due("the 31st", x.update(1), -1);
        x.change(10, 'R');
        x.change(290, 'R');
        c.due("replaced ones", x.update(1), 30);
        x.change(10, 0);
        x.change(12, 'N');
        c.due("one less before", x.update(1), 30);
        x.change(12, 'R');
        x.change(13, 'N');
        x.change(20, 0);
        c.due("one less behind", x.update(1), -2);
        c.due("nothing changed", x.letter(1, 1, 0), 'N');
    }

    @Sentence(words = "the first CHANGE by which that doesn't hold refuses all")
    static void theFirstThatRefusesIsTold(Checks c) {
        LibraryTools x = withLines(1);
        x.change(1, 'N');
        x.change(2, 0);
        x.change(1, 'N');
        c.due("the second, and a third", x.update(1), -2);
        for (int i = 1; i <= 19; i++) {
            x.change(i, 'N');
        }
        x.change(19, 0);
        c.due("the 20th", x.update(1), -20);
        c.dueText("nothing changed", Checks.read(x, 1), "10=A");
        x.change(9, 0);
        c.due("the first", x.update(1), -1);
    }

    @Sentence(words = "A line of that number is replaced, else there is a new one.")
    static void aLineIsReplacedWhole(Checks c) {
        LibraryTools x = withLines(0);
        Checks.write(x, 1, 10, "1234567890");
        Checks.write(x, 1, 20, "A");
        Checks.changeTo(x, 10, "B");
        Checks.changeTo(x, 20, "1234567890");
        c.due("update", x.update(1), 2);
        c.dueText("shorter and longer", Checks.read(x, 1), "10=B 20=1234567890");
        Checks.changeTo(x, 5, "F");
        Checks.changeTo(x, 15, "G");
        Checks.changeTo(x, 25, "H");
        c.due("update", x.update(1), 5);
        c.dueText("before, between and behind", Checks.read(x, 1), "5=F 10=B 15=G 20=1234567890 25=H");
        x.line(1, 10, 'C');
        c.dueText("a sign more of it", Checks.readLine(x, 1, 1), "BC");
    }

    @Sentence(words = "The change text is empty then, refused or not.")
    static void theChangeTextIsEmptyThen(Checks c) {
        LibraryTools x = withLines(1);
        x.change(5, 'A');
        x.update(1);
        c.due("done", x.count(3), 0);
        x.change(6, 0);
        x.update(1);
        c.due("refused", x.count(3), 0);
        x.change(6, 'B');
        c.due("begun anew", x.count(3), 1);
        c.due("update", x.update(1), 3);
        c.dueText("no older sign", Checks.read(x, 1), "5=A 6=B 10=A");
    }

    @Sentence(promise = 11, words = "how many lines it has then")
    static void anEmptyTextTellsTheLines(Checks c) {
        LibraryTools x = withLines(0);
        c.due("none", x.update(1), 0);
        x.line(1, 1, 'A');
        c.due("one", x.update(1), 1);
        LibraryTools y = withLines(30);
        c.due("thirty", y.update(1), 30);
        for (int i = 1; i <= 20; i++) {
            y.change(10 * i, 0);
        }
        c.due("twenty less", y.update(1), 10);
        c.due("the first one left", y.letter(1, 0, -1), 210);
    }

    @Sentence(promise = 11, words = "-100 no such member (the change text stays)")
    static void withoutTheMemberTheTextStays(Checks c) {
        LibraryTools x = withLines(1);
        x.member(2, 2);
        x.move(2, 1, 2, -1);
        x.change(5, 'A');
        for (int member : new int[] {0, -1, 4, 81, LEAST, MOST}) {
            c.due("member " + member, x.update(member), -100);
        }
        c.due("one that is gone", x.update(2), -100);
        c.due("it stays", x.count(3), 1);
        x.change(5, 'B');
        c.due("it goes on", x.count(3), 1);
        c.due("update", x.update(3), 1);
        c.dueText("both signs", Checks.read(x, 3), "5=AB");
    }
}
