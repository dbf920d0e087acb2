/** Promises 19 export0, 20 octet, 21 import0, 22 dump. */
public final class TransferTest {
    private static final Checks checks = new Checks("transfer");

    public static void main(String[] args) {
        setsAreExported();
        octetsHaveAnEnd();
        importsMakeSets();
        importsReplaceSets();
        wrongBytesBeginAnew();
        guardsAndRoomAreAskedTwice();
        dumpsAreTold();
        dumpsOfTheOtherCode();
        checks.end();
    }

    private static void setsAreExported() {
        LibraryTools x = new LibraryTools();
        checks.due("without a set", x.export0(1), -2);
        x.define(99, true);
        x.define(0, false);
        checks.due("an empty one", x.export0(1), 4);
        checks.dueText("its bytes", Checks.octets(x, 4), "69 99 1 0");
        x.record(2, 0x01020384);
        checks.due("a record that doesn't count", x.export0(2), 4);
        x.verify(2);
        checks.due("one that does", x.export0(2), 8);
        checks.dueText("its bytes", Checks.octets(x, 8), "69 0 0 1 1 2 3 -124");
        x.record(2, 5);
        x.delete(2);
        checks.due("no such set", x.export0(2), -2);
        checks.dueText("the latest stays", Checks.octets(x, 8), "69 0 0 1 1 2 3 -124");
        x.generate(1, 60, 1, 1);
        checks.due("sixty", x.export0(1), 244);
        checks.due("the last byte", x.octet(243), 60);
    }

    private static void octetsHaveAnEnd() {
        LibraryTools x = new LibraryTools();
        checks.dueThrow("octet(0) without an export", x, 0);
        x.define(1, false);
        x.generate(1, 60, 1, 1);
        x.export0(1);
        checks.dueThrow("octet(244)", x, 244);
        checks.dueThrow("octet(-1)", x, -1);
        checks.dueThrow("octet(greatest int)", x, Integer.MAX_VALUE);
        checks.dueThrow("octet(least int)", x, Integer.MIN_VALUE);
        x.define(2, false);
        x.export0(2);
        checks.due("octet(3)", x.octet(3), 0);
        checks.dueThrow("octet(4)", x, 4);
    }

    private static void importsMakeSets() {
        LibraryTools x = new LibraryTools();
        checks.dueText("a set without records", Checks.bring(x, 69, 5, 1, 0), "0 0 0 1");
        checks.dueText("it is there", Checks.readSet(x, 1), "5 0 0 1 0");
        checks.due("count(5)", x.count(5), 0);
        checks.dueText("two records", Checks.bring(x, 69, 99, 0, 2, 1, 2, 3, 4, 255, 254, 253), "0 0 0 0 0 0 0 0 0 0 0");
        checks.due("count(5)", x.count(5), 11);
        checks.due("count(2)", x.count(2), 1);
        checks.dueText("the last byte", Checks.bring(x, 252), "2");
        checks.dueText("it is there", Checks.readSet(x, 2), "99 2 2 0 " + 0xFFFEFDFC);
        checks.due("export", x.export0(2), 12);
        checks.dueText("its bytes", Checks.octets(x, 12), "69 99 0 2 1 2 3 4 -1 -2 -3 -4");
        checks.due("no code", x.greatest(), 0);
    }

    private static void importsReplaceSets() {
        LibraryTools x = new LibraryTools();
        x.define(1, false);
        x.define(2, false);
        x.generate(2, 5, 1, 1);
        x.record(2, 7);
        checks.dueText("replaced", Checks.bring(x, 69, 2, 1, 1, 0, 0, 1, 0), "0 0 0 0 0 0 0 2");
        checks.dueText("it is another one", Checks.readSet(x, 2), "2 1 1 1 256");
        checks.due("count(2)", x.count(2), 2);
        x.dry(true);
        checks.dueText("never dry", Checks.bring(x, 69, 1, 1, 0), "0 0 0 1");
        checks.due("not counted", x.dry(false), 0);
        checks.dueText("it is guarded", Checks.readSet(x, 1), "1 0 0 1 0");
    }

    private static void wrongBytesBeginAnew() {
        LibraryTools x = new LibraryTools();
        checks.dueText("another first one", Checks.bring(x, 68, 70, 0, 255), "-1 -1 -1 -1");
        checks.dueText("a name above 99", Checks.bring(x, 69, 100), "0 -1");
        checks.due("count(5)", x.count(5), 0);
        checks.dueText("a negative name", Checks.bring(x, 69, 255), "0 -1");
        checks.dueText("a guard above 1", Checks.bring(x, 69, 5, 2), "0 0 -1");
        checks.dueText("a negative guard", Checks.bring(x, 69, 5, 129), "0 0 -1");
        checks.dueText("more than 60", Checks.bring(x, 69, 5, 1, 61), "0 0 0 -1");
        checks.dueText("many more than 60", Checks.bring(x, 69, 5, 1, 200), "0 0 0 -1");
        checks.dueText("the wrong byte isn't a first one", Checks.bring(x, 69, 5, 69, 5), "0 0 -1 -1");
        checks.dueText("name 69", Checks.bring(x, 69, 69, 0, 0), "0 0 0 1");
        checks.due("one set", x.count(2), 1);
        checks.dueText("sixty", Checks.bring(x, 69, 5, 1, 60), "0 0 0 0");
        for (int i = 1; i < 240; i++) {
            x.import0((byte) i);
        }
        checks.due("count(5)", x.count(5), 243);
        checks.dueText("the last one", Checks.bring(x, 9), "2");
        checks.dueText("sixty records", Checks.readSet(x, 2), "5 60 60 1 " + 0xEDEEEF09);
    }

    private static void guardsAndRoomAreAskedTwice() {
        LibraryTools x = new LibraryTools();
        x.define(1, true);
        checks.dueText("guarded, at its name", Checks.bring(x, 69, 1), "0 -1");
        checks.dueText("not yet there", Checks.bring(x, 69, 2, 0), "0 0 0");
        x.define(2, true);
        checks.dueText("guarded, with the last byte", Checks.bring(x, 0), "-1");
        checks.due("count(5)", x.count(5), 0);
        checks.dueText("not yet full", Checks.bring(x, 69, 50, 0, 1, 0, 0, 0), "0 0 0 0 0 0 0");
        for (int i = 3; i <= 20; i++) {
            x.define(i, false);
        }
        checks.dueText("the 21st, with the last byte", Checks.bring(x, 7), "-1");
        checks.dueText("the 21st, at its name", Checks.bring(x, 69, 50), "0 -1");
        checks.dueText("one that is there", Checks.bring(x, 69, 3, 0, 0), "0 0 0 3");
        checks.dueText("one that is there at its name", Checks.bring(x, 69, 4, 0), "0 0 0");
        x.delete(4);
        checks.dueText("and gone then", Checks.bring(x, 0), "-1");
        checks.due("count(2)", x.count(2), 20);
    }

    private static void dumpsAreTold() {
        LibraryTools x = new LibraryTools();
        checks.due("without an export", x.dump(0, 0), -1);
        x.define(65, true);
        x.record(1, 0x20_7E_1F_7F);
        x.record(1, 0xFF_00_0A_AB);
        x.verify(1);
        x.export0(1);
        checks.dueText("line 0", Checks.dumpLine(x, 0), "0000: 45 41 01 02 EA.. ....");
        checks.dueText("line 1", Checks.dumpLine(x, 1), "0004: 20 7E 1F 7F  ~.. ....");
        checks.dueText("line 2", Checks.dumpLine(x, 2), "0008: FF 00 0A AB .... ....");
        checks.due("no line 3", x.dump(3, 0), -1);
        checks.due("no line -1", x.dump(-1, 0), -1);
        checks.due("no line of the greatest int", x.dump(Integer.MAX_VALUE, 0), -1);
        checks.due("no line whose place wraps around", x.dump(1 << 30, 0), -1);
        checks.due("no sign -1", x.dump(0, -1), -1);
        checks.due("the last sign", x.dump(0, 26), '.');
        checks.due("no sign 27", x.dump(0, 27), -1);
        x.generate(1, 58, 0, 0);
        x.export0(1);
        checks.dueText("line 26", Checks.dumpLine(x, 26), "0104: 00 00 00 00 .... ....");
        checks.dueText("line 60", Checks.dumpLine(x, 60), "0240: 00 00 00 00 .... ....");
        checks.due("no line 61", x.dump(61, 0), -1);
    }

    private static void dumpsOfTheOtherCode() {
        StringBuilder all = new StringBuilder();
        for (int first = 0; first < 256; first += 128) {
            LibraryTools x = new LibraryTools();
            x.define(1, false);
            for (int i = 0; i < 32; i++) {
                int b = first + 4 * i;
                x.record(1, b << 24 | b + 1 << 16 | b + 2 << 8 | b + 3);
            }
            x.verify(1);
            x.export0(1);
            for (int i = 1; i <= 32; i++) {
                for (int k = 23; k < 27; k++) {
                    all.append((char) x.dump(i, k));
                }
            }
        }
        StringBuilder want = new StringBuilder(".".repeat(256));
        want.setCharAt(64, ' ');
        want.replace(193, 202, "ABCDEFGHI");
        want.replace(209, 218, "JKLMNOPQR");
        want.replace(226, 234, "STUVWXYZ");
        want.replace(240, 250, "0123456789");
        checks.dueText("all bytes by the other code", all.toString(), want.toString());
    }
}
