/** Promises 23 dry, 24 greatest, 25 step, 29 count. */
public final class StepTest {
    private static final Checks checks = new Checks("step");

    public static void main(String[] args) {
        theGreatestIsKept();
        stepsBeginWithNothing();
        dryActsChangeNothing();
        dryActsAreCounted();
        countsAreTold();
        checks.end();
    }

    private static void theGreatestIsKept() {
        LibraryTools x = new LibraryTools();
        x.define(1, false);
        x.verify(1);
        checks.due("4", x.greatest(), 4);
        x.repro(1, 1);
        checks.due("8", x.greatest(), 8);
        x.alter(1, 1);
        checks.due("4 behind 8", x.greatest(), 8);
        x.generate(1, 60, 1, 1);
        x.generate(1, 1, 1, 1);
        checks.due("12", x.greatest(), 12);
        x.delete(9);
        x.alter(1, 100);
        checks.due("12 behind -2 and -4", x.greatest(), 12);
        checks.due("it stays", x.greatest(), 12);
    }

    private static void stepsBeginWithNothing() {
        LibraryTools x = new LibraryTools();
        checks.due("at first", x.step(), 0);
        x.define(1, true);
        x.delete(1);
        checks.due("the one before", x.step(), 8);
        checks.due("the new one", x.greatest(), 0);
        x.verify(1);
        checks.due("its greatest", x.greatest(), 4);
        checks.due("the next", x.step(), 4);
        checks.due("and the next", x.step(), 0);
        x.define(1, true);
        x.record(7, 1);
        x.export0(7);
        x.compare(1, 1);
        x.update(1);
        checks.due("only acts have codes", x.greatest(), 0);
    }

    private static LibraryTools house() {
        LibraryTools x = new LibraryTools();
        x.library(true);
        x.library(true);
        x.member(1, 1);
        x.member(1, 2);
        x.member(2, 2);
        Checks.write(x, 1, 1, "A");
        Checks.write(x, 2, 1, "B");
        x.define(1, false);
        x.define(2, false);
        x.generate(1, 2, 5, 1);
        x.record(2, 9);
        x.step();
        return x;
    }

    private static String state(LibraryTools x) {
        return x.find(1, 1) + " " + x.find(1, 2) + " " + x.find(2, 1) + " " + x.find(2, 2) + " " + x.find(2, 7)
            + " " + x.count(1) + " " + x.count(2) + " | " + Checks.read(x, 1) + " | " + Checks.read(x, 2)
            + " | " + Checks.read(x, 3) + " | " + Checks.readSet(x, 1) + " | " + Checks.readSet(x, 2);
    }

    private static void dryActsChangeNothing() {
        LibraryTools x = house();
        String before = state(x);
        x.dry(true);
        checks.due("copy", x.copy(1, 2, -1, -1), 0);
        checks.due("copy of one", x.copy(1, 2, 1, 7), 0);
        checks.due("move", x.move(1, 2, 1, 7), 0);
        checks.due("move again", x.move(1, 2, 2, -1), 0);
        checks.due("verify", x.verify(2), 0);
        checks.due("verify again", x.verify(2), 0);
        checks.due("repro", x.repro(1, 2), 0);
        checks.due("generate", x.generate(1, 58, 1, 1), 0);
        checks.due("generate again", x.generate(1, 58, 1, 1), 0);
        checks.due("alter", x.alter(1, 3), 0);
        checks.due("greatest() of those", x.greatest(), 0);
        checks.due("delete", x.delete(1), 0);
        checks.due("delete again", x.delete(1), 0);
        checks.dueText("the state", state(x), before);
        checks.due("8", x.alter(1, 2), 8);
        checks.due("it counts for the greatest", x.greatest(), 8);
        checks.due("12", x.generate(1, 60, 1, 1), 12);
        checks.due("it counts too", x.step(), 12);
        checks.dueText("the state still", state(x), before);
        x.dry(false);
        checks.due("delete for true", x.delete(1), 0);
        checks.due("it is gone", x.set(1, 0), -1);
    }

    private static void dryActsAreCounted() {
        LibraryTools x = house();
        checks.due("none at first", x.dry(false), 0);
        x.verify(1);
        checks.due("acts that weren't dry", x.dry(true), 0);
        x.verify(1);
        x.repro(1, 1);
        x.copy(1, 2, -1, -1);
        checks.due("three, still dry", x.dry(true), 3);
        x.verify(3);
        x.alter(1, 100);
        x.copy(1, 3, 1, 1);
        x.move(1, 2, -1, 1);
        x.member(1, 50);
        x.record(1, 5);
        checks.due("-2 and -4 and no acts", x.dry(true), 3);
        x.generate(1, 60, 1, 1);
        checks.due("12 too", x.dry(false), 4);
        x.verify(1);
        checks.due("not any more", x.dry(true), 4);
        x.step();
        x.delete(1);
        checks.due("a step is no matter", x.dry(false), 5);
        checks.due("what is no act was done", x.find(1, 50), 4);
    }

    private static void countsAreTold() {
        LibraryTools x = house();
        x.move(1, 2, 1, 9);
        x.delete(1);
        x.change(1, 65);
        x.change(2, 0);
        x.compare(2, 3);
        x.import0((byte) 69);
        x.import0((byte) 9);
        x.import0((byte) 1);
        checks.due("libraries", x.count(0), 2);
        checks.due("members", x.count(1), 4);
        checks.due("sets", x.count(2), 2);
        checks.due("changes", x.count(3), 2);
        checks.due("differences", x.count(4), 1);
        checks.due("bytes", x.count(5), 3);
        checks.due("what 6", x.count(6), -1);
        checks.due("what -1", x.count(-1), -1);
    }
}
