/** The limits of libraries, members, lines, sets and records: "Terms", promises 1 to 4, 12 and 13. */
final class LimitBoundaries {
    private static final int LEAST = Integer.MIN_VALUE;
    private static final int MOST = Integer.MAX_VALUE;

    private LimitBoundaries() {
    }

    /** Libraries 1, which keeps, and 2, which replaces. */
    private static LibraryTools twoLibraries() {
        LibraryTools x = new LibraryTools();
        x.library(false);
        x.library(true);
        return x;
    }

    private static LibraryTools oneMember() {
        LibraryTools x = twoLibraries();
        x.member(1, 1);
        return x;
    }

    /** Member 1 with lines 101, 102 .. of one sign each. */
    private static LibraryTools withLines(int lines) {
        LibraryTools x = oneMember();
        for (int i = 1; i <= lines; i++) {
            x.line(1, 100 + i, 'A');
        }
        return x;
    }

    /** So many members in library 1, with names from 0 on. */
    private static LibraryTools withMembers(int members) {
        LibraryTools x = twoLibraries();
        for (int i = 0; i < members; i++) {
            x.member(1, i);
        }
        return x;
    }

    private static LibraryTools withSets(int sets) {
        LibraryTools x = new LibraryTools();
        for (int i = 0; i < sets; i++) {
            x.define(i, false);
        }
        return x;
    }

    @Sentence(words = "An object is used for at most 512 calls after it has been made")
    static void the512thCallStillAnswers(Checks c) {
        LibraryTools x = oneMember();
        for (int i = 4; i < 511; i++) {
            x.greatest();
        }
        x.line(1, 9999, '~');
        c.due("the 512th call", x.letter(1, 0, -1), 9999);
    }

    @Sentence(promise = 1, words = "Nothing.")
    static void aNewObjectHasNothing(Checks c) {
        LibraryTools x = new LibraryTools();
        for (int what = 0; what <= 5; what++) {
            c.due("count(" + what + ")", x.count(what), 0);
        }
        c.due("no library", x.find(1, 0), -2);
        c.due("no member", x.letter(1, 0, -1), -1);
        c.due("no set", x.set(1, 0), -1);
        c.due("no difference", x.differ(0, 0), -1);
        c.due("no dump", x.dump(0, 0), -1);
        c.dueThrow("no export", x, 0);
        c.due("no code", x.greatest(), 0);
        c.due("not dry", x.dry(false), 0);
    }

    @Sentence(words = "LIBRARIES are numbered from 1 on (at most 6)")
    static void librariesAreNumberedFromOneToSix(Checks c) {
        LibraryTools x = new LibraryTools();
        c.due("none yet", x.find(1, 0), -2);
        for (int i = 1; i <= 6; i++) {
            c.due("library " + i, x.library(i % 2 == 0), i);
            c.due("it is there", x.find(i, 0), 0);
            c.due("the next isn't", x.find(i + 1, 0), -2);
        }
        c.due("the 7th", x.library(false), -1);
        c.due("there is none", x.find(7, 0), -2);
    }

    @Sentence(promise = 2, words = "A new library: its number; NONE.")
    static void theSeventhLibraryIsNone(Checks c) {
        LibraryTools x = new LibraryTools();
        for (int i = 1; i <= 6; i++) {
            c.due("library " + i, x.library(true), i);
        }
        c.due("the 7th", x.library(true), LibraryTools.NONE);
        c.due("the 8th", x.library(false), LibraryTools.NONE);
        c.due("six stay", x.count(0), 6);
        x.member(1, 1);
        x.member(6, 1);
        x.line(1, 1, 'A');
        c.due("the 6th still replaces", x.copy(1, 6, 1, -1), 0);
        c.due("the copy", x.letter(2, 0, 0), 'A');
    }

    @Sentence(words = "each REPLACES or keeps (at first)")
    static void aLibraryReplacesOrKeepsFromTheFirst(Checks c) {
        LibraryTools x = new LibraryTools();
        for (int i = 1; i <= 6; i++) {
            x.library(i == 1 || i == 6);
            x.member(i, 1);
        }
        for (int from = 1; from <= 6; from++) {
            int to = from % 6 + 1;
            c.due("to " + to, x.copy(from, to, 1, -1), to == 1 || to == 6 ? 0 : 4);
        }
    }

    @Sentence(words = "MEMBERS are numbered from 1 on (at most 80, also those that are gone)")
    static void membersAreNumberedFromOneToEighty(Checks c) {
        LibraryTools x = twoLibraries();
        for (int i = 1; i <= 80; i++) {
            c.due("member " + i, x.member(1 + i % 2, i), i);
        }
        x.line(80, 1, 'Z');
        c.due("the 80th is one", x.letter(80, 0, 0), 'Z');
        c.due("the 81st", x.member(1, 0), -1);
        c.due("member 81 is none", x.update(81), -100);
        c.due("member 0 is none", x.update(0), -100);
    }

    @Sentence(words = "(at most 80, also those that are gone)")
    static void membersThatAreGoneTakeRoom(Checks c) {
        LibraryTools x = withMembers(78);
        c.due("the 79th by a move", x.move(1, 2, 0, -1), 0);
        c.due("the 80th by a copy", x.copy(1, 2, 1, -1), 0);
        c.due("its number", x.find(2, 1), 80);
        c.due("one is gone", x.find(1, 0), 0);
        c.due("no member more", x.member(1, 0), -1);
        c.due("no copy more", x.copy(1, 2, 2, -1), 12);
        c.due("no move more", x.move(1, 2, 2, -1), 12);
        c.due("count(1)", x.count(1), 80);
    }

    @Sentence(words = "each in a library, with a name 0 .. 99, one of a name there")
    static void membersHaveNamesFrom0To99(Checks c) {
        LibraryTools x = twoLibraries();
        c.due("name 0", x.member(1, 0), 1);
        c.due("name 99", x.member(1, 99), 2);
        c.due("name 0 in another library", x.member(2, 0), 3);
        c.due("name 99 in another library", x.member(2, 99), 4);
        c.due("found", x.find(1, 0), 1);
        c.due("found", x.find(1, 99), 2);
        c.due("found", x.find(2, 0), 3);
        c.due("found", x.find(2, 99), 4);
    }

    @Sentence(promise = 3, words = "-2 no such library")
    static void aMemberWantsALibrary(Checks c) {
        LibraryTools x = new LibraryTools();
        c.due("before the first library", x.member(1, 5), -2);
        x.library(false);
        x.library(false);
        for (int library : new int[] {0, -1, 3, 7, LEAST, MOST}) {
            c.due("library " + library, x.member(library, 5), -2);
            c.due("-2 before -4", x.member(library, 100), -2);
        }
        c.due("none came", x.count(1), 0);
    }

    @Sentence(promise = 3, words = "-4 name is not so")
    static void aMemberWantsANameOf0To99(Checks c) {
        LibraryTools x = twoLibraries();
        for (int name : new int[] {-1, 100, -2, LEAST, MOST}) {
            c.due("name " + name, x.member(1, name), -4);
        }
        c.due("none came", x.count(1), 0);
        LibraryTools full = withMembers(80);
        c.due("-4 in a full house", full.member(1, 100), -4);
    }

    @Sentence(promise = 3, words = "-5 one of the name is there")
    static void aMemberWantsAFreeName(Checks c) {
        LibraryTools x = oneMember();
        x.line(1, 1, 'A');
        c.due("it is there", x.member(1, 1), -5);
        c.due("it stays", x.letter(1, 0, 0), 'A');
        c.due("none came", x.count(1), 1);
        c.due("it is free elsewhere", x.member(2, 1), 2);
        c.due("a copied one is there", x.copy(1, 2, 1, 8), 0);
        c.due("its name", x.member(2, 8), -5);
        c.due("a moved one", x.move(1, 2, 1, 9), 0);
        c.due("its name there", x.member(2, 9), -5);
        c.due("its name is free here", x.member(1, 1), 5);
        LibraryTools full = withMembers(80);
        c.due("-5 in a full house", full.member(1, 79), -5);
    }

    @Sentence(promise = 3, words = "A new member without lines: its number;")
    static void aNewMemberHasNoLines(Checks c) {
        LibraryTools x = oneMember();
        x.line(1, 1, 'A');
        x.move(1, 2, 1, -1);
        c.due("of a name that was used", x.member(1, 1), 3);
        c.dueText("it has no lines", Checks.read(x, 3), "");
        c.due("nor does an update count one", x.update(3), 0);
    }

    @Sentence(promise = 3, words = "NONE.")
    static void theEightyFirstMemberIsNone(Checks c) {
        LibraryTools x = withMembers(79);
        c.due("the 80th", x.member(2, 99), 80);
        c.due("the 81st", x.member(2, 98), LibraryTools.NONE);
        c.due("it isn't found", x.find(2, 98), 0);
        c.due("eighty stay", x.count(1), 80);
    }

    @Sentence(words = "a member has LINES by NUMBERS 1 .. 9999")
    static void linesHaveNumbersFrom1To9999(Checks c) {
        LibraryTools x = oneMember();
        x.line(1, 0, 'A');
        x.line(1, 10000, 'A');
        x.line(1, -1, 'A');
        x.line(1, LEAST, 'A');
        x.line(1, MOST, 'A');
        c.dueText("outside", Checks.read(x, 1), "");
        x.line(1, 9999, 'B');
        x.line(1, 1, 'C');
        c.dueText("at the ends", Checks.read(x, 1), "1=C 9999=B");
    }

    @Sentence(promise = 4, words = "Nothing happens if there is no such member")
    static void aLineWantsAMember(Checks c) {
        LibraryTools x = new LibraryTools();
        x.line(1, 1, 'A');
        x.library(true);
        x.library(true);
        x.member(1, 1);
        x.member(1, 2);
        for (int member : new int[] {0, -1, 3, 81, LEAST, MOST}) {
            x.line(member, 1, 'A');
        }
        c.dueText("member 1", Checks.read(x, 1), "");
        c.dueText("member 2", Checks.read(x, 2), "");
        x.move(1, 2, 1, -1);
        x.line(1, 1, 'A');
        c.dueText("one that is gone", Checks.read(x, 1), "");
        c.dueText("where it went", Checks.read(x, 3), "");
        c.due("none came", x.count(1), 3);
    }

    @Sentence(promise = 4, words = "number or sign is outside")
    static void aLineWantsANumberAndASign(Checks c) {
        LibraryTools x = oneMember();
        x.line(1, 5, 'A');
        for (int sign : new int[] {31, 127, 0, -1, 10, 128, 256 + 'A', LEAST, MOST}) {
            x.line(1, 5, sign);
            x.line(1, 6, sign);
        }
        c.dueText("signs outside, no line begun", Checks.read(x, 1), "5=A");
        for (int number : new int[] {0, 10000, -5, 65536 + 5, LEAST, MOST}) {
            x.line(1, number, 'A');
        }
        c.dueText("numbers outside", Checks.read(x, 1), "5=A");
        x.line(1, 5, 32);
        x.line(1, 5, 126);
        c.dueText("the first sign and the last one", Checks.read(x, 1), "5=A ~");
    }

    @Sentence(words = "each of 1 .. 10 SIGNS (32 .. 126)")
    static void signsGoFrom32To126(Checks c) {
        LibraryTools x = oneMember();
        for (int sign = 30; sign <= 128; sign++) {
            x.line(1, 1 + sign / 10, sign);
        }
        int told = 0;
        for (int i = 0; i < 10; i++) {
            told += Checks.readLine(x, 1, i).length();
        }
        c.due("how many were taken", told, 95);
        c.due("the first one", x.letter(1, 0, 0), 32);
        c.due("the last one", x.letter(1, 9, 6), 126);
        c.due("no other one", x.letter(1, 9, 7), -1);
    }

    @Sentence(promise = 4, words = "the line has 10")
    static void aLineHasTenSigns(Checks c) {
        LibraryTools x = oneMember();
        Checks.write(x, 1, 7, "123456789");
        x.line(1, 8, 'N');
        x.line(1, 7, '0');
        c.dueText("the 10th", Checks.read(x, 1), "7=1234567890 8=N");
        x.line(1, 7, 'X');
        c.dueText("the 11th", Checks.read(x, 1), "7=1234567890 8=N");
        x.line(1, 8, 'M');
        c.dueText("another line goes on", Checks.read(x, 1), "7=1234567890 8=NM");
    }

    @Sentence(promise = 4, words = "or there would be more than 30 lines")
    static void aMemberHasThirtyLines(Checks c) {
        LibraryTools x = withLines(29);
        x.line(1, 130, 'B');
        c.due("the 30th", x.letter(1, 29, -1), 130);
        x.line(1, 131, 'C');
        c.due("the 31st", x.letter(1, 30, -1), -1);
        x.line(1, 1, 'C');
        c.due("the 31st before all", x.letter(1, 0, -1), 101);
        x.line(1, 130, 'D');
        c.due("a sign more of the 30th", x.letter(1, 29, 1), 'D');
        x.line(1, 101, 'D');
        c.due("a sign more of the first", x.letter(1, 0, 1), 'D');
        c.due("thirty", x.update(1), 30);
    }

    @Sentence(words = "(at most 30), in their order")
    static void thirtyLinesStandInTheirOrder(Checks c) {
        LibraryTools x = oneMember();
        for (int i = 0; i < 30; i++) {
            x.line(1, 1 + i * 7 % 30, 'A' + i % 26);
        }
        for (int i = 0; i < 30; i++) {
            c.due("line " + i, x.letter(1, i, -1), i + 1);
            // 13 is the inverse of 7 modulo 30.
            c.due("its sign", x.letter(1, i, 0), 'A' + i * 13 % 30 % 26);
        }
    }

    @Sentence(promise = 4, words = "A sign more of a member's line (a new one, if there is none such).")
    static void aSignGoesToItsLine(Checks c) {
        LibraryTools x = oneMember();
        x.member(2, 1);
        Checks.write(x, 1, 20, "AB");
        Checks.write(x, 1, 10, "C");
        Checks.write(x, 1, 30, "D");
        Checks.write(x, 1, 25, "E");
        Checks.write(x, 1, 20, "F");
        c.dueText("before, behind and between", Checks.read(x, 1), "10=C 20=ABF 25=E 30=D");
        c.dueText("the other member", Checks.read(x, 2), "");
    }

    @Sentence(words = "SETS are numbered from 1 on (at most 20, also those that are gone)")
    static void setsAreNumberedFromOneToTwenty(Checks c) {
        LibraryTools x = new LibraryTools();
        c.due("none yet", x.record(1, 5), -2);
        for (int i = 1; i <= 20; i++) {
            c.due("set " + i, x.define(i, false), i);
            c.due("the next is none", x.set(i + 1, 0), -1);
        }
        c.due("set 0 is none", x.record(0, 5), -2);
        c.due("the 20th is one", x.record(20, 5), 1);
        c.due("the 21st", x.define(0, false), -1);
        c.due("an import of a 21st", x.import0((byte) 69), 0);
        c.due("at its name", x.import0((byte) 0), -1);
        x.delete(1);
        c.due("those gone take room", x.define(1, false), -1);
        c.due("of an import, too", x.import0((byte) 69), 0);
        c.due("at its name", x.import0((byte) 1), -1);
        c.due("count(2)", x.count(2), 20);
    }

    @Sentence(words = "each with a name 0 .. 99 (one of a name)")
    static void setsHaveNamesFrom0To99(Checks c) {
        LibraryTools x = new LibraryTools();
        c.due("name 0", x.define(0, false), 1);
        c.due("name 99", x.define(99, false), 2);
        c.due("its name", x.set(1, 0), 0);
        c.due("its name", x.set(2, 0), 99);
        c.due("0 again", x.define(0, true), -5);
        c.due("99 again", x.define(99, true), -5);
        c.due("renamed to 0", x.alter(2, 0), 8);
        c.due("renamed to 99", x.alter(1, 99), 8);
    }

    @Sentence(promise = 12, words = "-4 name is not so")
    static void aSetWantsANameOf0To99(Checks c) {
        LibraryTools x = withSets(20);
        LibraryTools y = new LibraryTools();
        for (int name : new int[] {-1, 100, -2, LEAST, MOST}) {
            c.due("name " + name, y.define(name, false), -4);
            c.due("in a full house", x.define(name, false), -4);
        }
        c.due("none came", y.count(2), 0);
    }

    @Sentence(promise = 12, words = "-5 one of the name is there")
    static void aSetWantsAFreeName(Checks c) {
        LibraryTools x = withSets(19);
        c.due("the first one's", x.define(0, true), -5);
        c.due("the 19th one's", x.define(18, true), -5);
        c.due("the guard stays", x.set(1, 3), 0);
        c.due("none came", x.count(2), 19);
        x.alter(1, 50);
        c.due("a new name", x.define(50, true), -5);
        c.due("the old name is free", x.define(0, true), 20);
        c.due("-5 in a full house", x.define(50, true), -5);
        x.delete(1);
        c.due("a gone one's name is free, but there is no room", x.define(50, true), -1);
    }

    @Sentence(promise = 12, words = "A new set: its number;")
    static void aNewSetIsEmpty(Checks c) {
        LibraryTools x = new LibraryTools();
        x.define(5, false);
        x.generate(1, 60, 9, 9);
        x.delete(1);
        c.due("of a name that was used", x.define(5, true), 2);
        c.dueText("it is empty", Checks.readSet(x, 2), "5 0 0 1 0");
        c.due("not guarded", x.define(6, false), 3);
        c.dueText("it is empty", Checks.readSet(x, 3), "6 0 0 0 0");
    }

    @Sentence(promise = 12, words = "NONE.")
    static void theTwentyFirstSetIsNone(Checks c) {
        LibraryTools x = withSets(19);
        c.due("the 20th", x.define(90, false), 20);
        c.due("the 21st", x.define(91, false), LibraryTools.NONE);
        c.due("there is none", x.set(21, 0), -1);
        c.due("twenty stay", x.count(2), 20);
    }

    @Sentence(words = "with RECORDS (ints, at most 60)")
    static void recordsAreInts(Checks c) {
        LibraryTools x = withSets(1);
        int[] values = {LEAST, MOST, 0, -1, 1};
        for (int i = 0; i < values.length; i++) {
            c.due("record " + values[i], x.record(1, values[i]), i + 1);
            x.verify(1);
            c.due("it is the latest", x.set(1, 4), values[i]);
        }
    }

    @Sentence(words = "an END MARK, which tells how many of them count")
    static void theEndMarkBeginsWithNone(Checks c) {
        LibraryTools x = withSets(1);
        c.dueText("an empty set", Checks.readSet(x, 1), "0 0 0 0 0");
        x.record(1, 7);
        c.dueText("one that doesn't count", Checks.readSet(x, 1), "0 1 0 0 0");
        x.verify(1);
        c.dueText("one that does", Checks.readSet(x, 1), "0 1 1 0 7");
        x.record(1, 8);
        c.dueText("one of two", Checks.readSet(x, 1), "0 2 1 0 7");
    }

    @Sentence(promise = 13, words = "A record more at a set's end; the END MARK stays: how many records it has")
    static void aRecordLeavesTheEndMark(Checks c) {
        LibraryTools x = withSets(1);
        x.generate(1, 2, 5, 1);
        c.due("the third", x.record(1, 9), 3);
        c.due("the fourth", x.record(1, 10), 4);
        c.dueText("two count", Checks.readSet(x, 1), "0 4 2 0 6");
        x.verify(1);
        c.dueText("four count", Checks.readSet(x, 1), "0 4 4 0 10");
        x.export0(1);
        c.due("the third is before the fourth", x.octet(15), 9);
    }

    @Sentence(promise = 13, words = "-2;")
    static void aRecordWantsASet(Checks c) {
        LibraryTools x = withSets(2);
        for (int set : new int[] {0, -1, 3, 21, LEAST, MOST}) {
            c.due("set " + set, x.record(set, 5), -2);
        }
        x.delete(2);
        c.due("one that is gone", x.record(2, 5), -2);
        c.due("none came", x.set(1, 1), 0);
    }

    @Sentence(promise = 13, words = "NONE it has 60")
    static void theSixtyFirstRecordIsNone(Checks c) {
        LibraryTools x = withSets(1);
        for (int i = 1; i <= 59; i++) {
            x.record(1, i);
        }
        c.due("the 60th", x.record(1, -60), 60);
        c.due("the 61st", x.record(1, -61), LibraryTools.NONE);
        c.due("sixty stay", x.set(1, 1), 60);
        x.verify(1);
        c.due("the 60th is the latest", x.set(1, 4), -60);
        c.due("the 61st when all count", x.record(1, -61), LibraryTools.NONE);
    }
}
