/** The codes of acts, their order, the greatest of a step, and dry acts: "Terms", promises 23 to 25. */
final class CodeBoundaries {
    private CodeBoundaries() {
    }

    /**
     * Libraries 1 (replaces: 1 "1=A", 2 "1=B"), 2 (keeps: 2 "1=C"), 3 (keeps, empty);
     * sets 10 (5, 6), 20 (9 that doesn't count) and 30 (guarded, empty).
     */
    private static LibraryTools house() {
        LibraryTools x = new LibraryTools();
        x.library(true);
        x.library(false);
        x.library(false);
        x.member(1, 1);
        x.member(1, 2);
        x.member(2, 2);
        Checks.write(x, 1, 1, "A");
        Checks.write(x, 2, 1, "B");
        Checks.write(x, 3, 1, "C");
        x.define(10, false);
        x.define(20, false);
        x.define(30, true);
        x.generate(1, 2, 5, 1);
        x.record(2, 9);
        return x;
    }

    /** The house with 80 members, the others in library 3 under the names from 10 on. */
    private static LibraryTools fullHouse() {
        LibraryTools x = house();
        for (int i = 3; i < 80; i++) {
            x.member(3, 7 + i);
        }
        return x;
    }

    private static String state(LibraryTools x) {
        StringBuilder all = new StringBuilder();
        for (int library = 1; library <= 3; library++) {
            for (int name = 0; name <= 3; name++) {
                all.append(x.find(library, name)).append(' ');
            }
        }
        for (int member = 1; member <= 3; member++) {
            all.append("| ").append(Checks.read(x, member)).append(' ');
        }
        for (int set = 1; set <= 3; set++) {
            all.append("| ").append(Checks.readSet(x, set)).append(' ');
        }
        return all.append(x.count(1)).append(' ').append(x.count(2)).toString();
    }

    @Sentence(words = "else -2 no such library, member or set (which is gone, too)")
    static void whatIsGoneIsNoSuchOne(Checks c) {
        LibraryTools x = house();
        x.move(1, 3, 1, -1);
        x.delete(1);
        x.step();
        c.due("compare()", x.compare(1, 2), -2);
        c.due("compare()", x.compare(2, 1), -2);
        c.due("delete()", x.delete(1), -2);
        c.due("alter()", x.alter(1, 10), -2);
        c.due("repro() from", x.repro(1, 2), -2);
        c.due("repro() to", x.repro(2, 1), -2);
        c.due("repro() to itself", x.repro(1, 1), -2);
        c.due("generate()", x.generate(1, 1, 1, 1), -2);
        c.due("verify()", x.verify(1), -2);
        c.due("record()", x.record(1, 1), -2);
        c.due("export0()", x.export0(1), -2);
        c.due("no code", x.greatest(), 0);
    }

    @Sentence(words = "(the first of -2, -4, 8, 12, 4 that holds)")
    static void minus2ComesFirst(Checks c) {
        LibraryTools x = house();
        c.due("copy: -2 and -4", x.copy(4, 1, 100, -1), -2);
        c.due("copy: -2 and -4", x.copy(1, 4, 1, 100), -2);
        c.due("copy: -2 and 8", x.copy(3, 4, -1, -1), -2);
        c.due("move: -2 and -4", x.move(1, 4, -1, -1), -2);
        c.due("move: -2 and 8", x.move(4, 3, 9, -1), -2);
        c.due("alter: -2 and -4", x.alter(4, 100), -2);
        c.due("alter: -2 and 8", x.alter(4, 10), -2);
        c.due("repro: -2 and 8", x.repro(4, 4), -2);
        c.due("repro: -2 and 4", x.repro(2, 4), -2);
        c.due("generate: -2 and -4", x.generate(4, 61, 1, 1), -2);
        LibraryTools full = fullHouse();
        c.due("copy: -2 and 12", full.copy(4, 1, 2, -1), -2);
        c.due("move: -2 and 12", full.move(1, 4, 2, -1), -2);
    }

    @Sentence(words = "-4 a number is outside (the first of -2, -4, 8, 12, 4 that holds)")
    static void minus4ComesSecond(Checks c) {
        LibraryTools x = house();
        c.due("copy: -4 and 8", x.copy(3, 1, -1, 100), -4);
        c.due("copy: -4 and 8", x.copy(1, 2, 9, 100), -4);
        c.due("copy of two: -4 and 8", x.copy(1, 2, -1, -2), -4);
        c.due("move: -4 and 8", x.move(3, 1, -1, -1), -4);
        c.due("move: -4 and 8", x.move(1, 2, 9, 100), -4);
        x.generate(1, 58, 1, 1);
        c.due("generate: -4 and 12", x.generate(1, 61, 1, 1), -4);
        LibraryTools full = fullHouse();
        c.due("copy: -4 and 12", full.copy(1, 3, 1, 100), -4);
        c.due("move: -4 and 12", full.move(1, 3, -1, -1), -4);
    }

    @Sentence(words = "8 it is not done, 12 there is no room (it is not done)")
    static void eightComesBefore12(Checks c) {
        LibraryTools full = fullHouse();
        c.due("copy of two with a new name", full.copy(1, 3, -1, 9), 8);
        c.due("copy of none", full.copy(1, 3, 9, -1), 8);
        c.due("move of none", full.move(1, 3, 9, -1), 8);
        c.due("copy of one", full.copy(1, 3, 1, 9), 12);
        full.generate(1, 58, 1, 1);
        c.due("repro to itself", full.repro(1, 1), 8);
        c.due("repro to another", full.repro(1, 2), 0);
        c.due("repro to another again", full.repro(1, 2), 12);
    }

    @Sentence(words = "8, 12, 4 that holds")
    static void eightAnd12ComeBefore4(Checks c) {
        LibraryTools x = house();
        c.due("copy of two, as one that is kept: 8 and 4", x.copy(1, 2, -1, 2), 8);
        c.due("repro of none to itself: 8 and 4", x.repro(2, 2), 8);
        LibraryTools full = fullHouse();
        c.due("copy of one that is new, one that is kept: 12 and 4", full.copy(1, 2, -1, -1), 12);
        c.due("of the one that is kept", full.copy(1, 2, 2, -1), 4);
        c.due("of the one that is new", full.copy(1, 2, 1, -1), 12);
    }

    @Sentence(words = "0 it is done, 4 it is done in part, or there was nothing to do")
    static void fourIsDoneInPart(Checks c) {
        LibraryTools x = house();
        c.due("one of two", x.copy(1, 2, -1, -1), 4);
        c.due("the other one came", x.find(2, 1), 4);
        c.dueText("the one is kept", Checks.read(x, 3), "1=C");
        c.due("nothing to rename", x.alter(1, 10), 4);
        c.due("nothing to copy", x.repro(2, 1), 4);
        c.due("nothing to verify", x.verify(1), 4);
        c.dueText("the set stays", Checks.readSet(x, 1), "10 2 2 0 6");
    }

    @Sentence(words = "THE GREATEST code of the step is kept")
    static void theGreatestIsKept(Checks c) {
        LibraryTools x = house();
        c.due("0 by acts that are done", x.greatest(), 0);
        x.verify(1);
        c.due("4", x.greatest(), 4);
        x.verify(2);
        c.due("0 behind 4", x.greatest(), 4);
        x.delete(3);
        c.due("8", x.greatest(), 8);
        x.verify(1);
        c.due("4 behind 8", x.greatest(), 8);
        x.generate(1, 59, 1, 1);
        c.due("12", x.greatest(), 12);
        x.delete(3);
        c.due("8 behind 12", x.greatest(), 12);
    }

    @Sentence(promise = 24, words = "The greatest code of the step.")
    static void onlyCodesAreKept(Checks c) {
        LibraryTools x = house();
        x.copy(4, 1, 1, 1);
        x.copy(1, 1, 100, 1);
        x.move(1, 4, 1, 1);
        x.move(1, 1, -1, 1);
        x.delete(4);
        x.alter(4, 1);
        x.alter(1, 100);
        x.repro(4, 1);
        x.generate(4, 1, 1, 1);
        x.generate(1, 61, 1, 1);
        x.verify(4);
        c.due("by -2 and -4", x.greatest(), 0);
        x.member(1, 1);
        x.define(10, true);
        x.record(4, 1);
        x.compare(1, 2);
        x.update(1);
        x.update(9);
        x.export0(1);
        x.export0(4);
        x.ahead(8);
        x.import0((byte) 1);
        c.due("by answers that are no codes", x.greatest(), 0);
        x.delete(3);
        c.due("8", x.greatest(), 8);
        c.due("asked again", x.greatest(), 8);
    }

    @Sentence(words = "THE GREATEST code")
    static void eachActHasACode(Checks c) {
        LibraryTools x = fullHouse();
        c.due("at first", x.step(), 0);
        x.copy(1, 2, 1, -1);
        c.due("copy 12", x.step(), 12);
        x.move(1, 2, 2, -1);
        c.due("move 4", x.step(), 4);
        x.move(1, 2, 9, -1);
        c.due("move 8", x.step(), 8);
        x.move(1, 2, 1, -1);
        c.due("move 12", x.step(), 12);
        x.delete(3);
        c.due("delete 8", x.step(), 8);
        x.alter(1, 20);
        c.due("alter 8", x.step(), 8);
        x.repro(2, 1);
        c.due("repro 4", x.step(), 4);
        x.generate(1, 60, 1, 1);
        c.due("generate 12", x.step(), 12);
        x.verify(1);
        c.due("verify 4", x.step(), 4);
        x.verify(2);
        c.due("verify 0", x.step(), 0);
    }

    @Sentence(words = "a new step begins with 0")
    static void aNewStepBeginsWith0(Checks c) {
        LibraryTools x = house();
        x.delete(3);
        x.step();
        c.due("greatest()", x.greatest(), 0);
        x.verify(1);
        c.due("a lesser code than before", x.greatest(), 4);
        x.step();
        c.due("step()", x.step(), 0);
    }

    @Sentence(promise = 25, words = "A new step: the greatest code of the one before.")
    static void aStepTellsTheOneBefore(Checks c) {
        LibraryTools x = new LibraryTools();
        c.due("without an act", x.step(), 0);
        x.define(1, true);
        x.generate(1, 60, 1, 1);
        x.generate(1, 1, 1, 1);
        x.verify(1);
        c.due("12 and 4", x.step(), 12);
        x.verify(1);
        c.due("4", x.step(), 4);
        c.due("without an act since", x.step(), 0);
    }

    @Sentence(words = "DRY acts answer as they would")
    static void dryActsAnswerAsTheyWould(Checks c) {
        LibraryTools x = house();
        x.dry(true);
        c.due("copy", x.copy(1, 2, 1, -1), 0);
        c.due("copy, as if it were the first", x.copy(1, 2, 1, -1), 0);
        c.due("copy 4", x.copy(1, 2, -1, -1), 4);
        c.due("copy 8", x.copy(1, 2, -1, 9), 8);
        c.due("copy -2", x.copy(1, 4, -1, 9), -2);
        c.due("copy -4", x.copy(1, 2, -1, 100), -4);
        c.due("move", x.move(1, 2, 1, -1), 0);
        c.due("move, as if it were the first", x.move(1, 2, 1, -1), 0);
        c.due("move 4", x.move(1, 2, 2, -1), 4);
        c.due("delete", x.delete(1), 0);
        c.due("delete, as if it were the first", x.delete(1), 0);
        c.due("delete 8", x.delete(3), 8);
        c.due("alter", x.alter(1, 11), 0);
        c.due("alter, as if it were the first", x.alter(1, 11), 0);
        c.due("alter 4", x.alter(1, 10), 4);
        c.due("repro", x.repro(1, 2), 0);
        c.due("generate", x.generate(1, 58, 1, 1), 0);
        c.due("generate, as if it were the first", x.generate(1, 58, 1, 1), 0);
        c.due("generate 12", x.generate(1, 59, 1, 1), 12);
        c.due("verify", x.verify(2), 0);
        c.due("verify, as if it were the first", x.verify(2), 0);
        c.due("verify 4", x.verify(1), 4);
        LibraryTools full = fullHouse();
        full.dry(true);
        c.due("copy 12", full.copy(1, 2, 1, -1), 12);
        c.due("move 12", full.move(1, 2, 1, -1), 12);
    }

    @Sentence(words = "count for the greatest code, and change nothing")
    static void dryActsChangeNothing(Checks c) {
        LibraryTools x = house();
        String before = state(x);
        x.dry(true);
        x.copy(1, 3, -1, -1);
        x.copy(1, 2, -1, -1);
        x.copy(2, 1, 2, -1);
        c.dueText("behind copies", state(x), before);
        x.move(1, 3, 1, -1);
        x.move(2, 1, 2, -1);
        x.move(1, 1, 1, 3);
        c.dueText("behind moves", state(x), before);
        x.repro(1, 2);
        x.generate(1, 1, 1, 1);
        x.verify(2);
        x.alter(1, 11);
        x.delete(1);
        c.dueText("behind acts on sets", state(x), before);
        c.due("count(2)", x.count(2), 3);
    }

    @Sentence(words = "count for the greatest code")
    static void dryActsCountForTheGreatest(Checks c) {
        LibraryTools x = house();
        x.dry(true);
        x.verify(1);
        c.due("4", x.greatest(), 4);
        x.delete(3);
        c.due("8", x.greatest(), 8);
        x.generate(1, 60, 1, 1);
        c.due("12", x.step(), 12);
        x.dry(false);
        c.due("dry() is no new step", x.step(), 0);
        x.delete(3);
        x.dry(true);
        c.due("nor does it lose a code", x.greatest(), 8);
    }

    @Sentence(promise = 23, words = "how many were so far (those that answered -2 or -4 are not counted)")
    static void dryActsAreCounted(Checks c) {
        LibraryTools x = fullHouse();
        c.due("none at first", x.dry(true), 0);
        x.verify(2);
        c.due("0 counts", x.dry(true), 1);
        x.verify(1);
        c.due("4 counts", x.dry(true), 2);
        x.delete(3);
        c.due("8 counts", x.dry(true), 3);
        x.copy(1, 2, 1, -1);
        c.due("12 counts", x.dry(true), 4);
        x.verify(4);
        x.copy(4, 1, 1, 1);
        x.move(1, 4, 1, 1);
        c.due("-2 doesn't", x.dry(true), 4);
        x.alter(1, 100);
        x.generate(1, 0, 1, 1);
        x.move(1, 2, -1, 1);
        c.due("-4 doesn't", x.dry(true), 4);
        x.copy(1, 1, 1, -1);
        x.move(1, 1, 1, -1);
        x.repro(1, 2);
        x.generate(1, 1, 1, 1);
        x.alter(1, 11);
        c.due("each act counts", x.dry(true), 9);
        x.step();
        c.due("a step is no matter", x.dry(false), 9);
    }

    @Sentence(promise = 23, words = "Acts are dry from now on, or not")
    static void actsAreDryOrNot(Checks c) {
        LibraryTools x = house();
        x.verify(1);
        c.due("not dry at first", x.dry(false), 0);
        x.verify(1);
        c.due("nor by dry(false)", x.dry(true), 0);
        x.delete(1);
        c.due("dry by dry(true)", x.set(1, 0), 10);
        c.due("one", x.dry(true), 1);
        x.delete(1);
        c.due("still dry", x.set(1, 0), 10);
        c.due("two", x.dry(false), 2);
        x.delete(1);
        c.due("not dry any more", x.set(1, 0), -1);
        c.due("still two", x.dry(false), 2);
    }

    @Sentence(promise = 23, words = "Acts are dry from now on")
    static void whatIsNoActIsNeverDry(Checks c) {
        LibraryTools x = house();
        x.dry(true);
        c.due("library()", x.library(true), 4);
        c.due("member()", x.member(4, 1), 4);
        x.line(4, 1, 'L');
        c.due("line()", x.letter(4, 0, 0), 'L');
        c.due("define()", x.define(40, false), 4);
        c.due("record()", x.record(4, 5), 1);
        c.due("it came", x.set(4, 1), 1);
        x.change(1, 'M');
        c.due("update()", x.update(4), 1);
        c.due("it is done", x.letter(4, 0, 0), 'M');
        c.due("export0()", x.export0(1), 12);
        c.dueText("import0()", Checks.bring(x, 69, 41, 0, 0), "0 0 0 5");
        c.due("compare()", x.compare(1, 2), 1);
        c.due("ahead()", x.ahead(4), 3);
        c.due("it became 4", x.ahead(3), 4);
        c.due("none was counted", x.dry(false), 0);
    }
}
