/** Exports, imports and dumps: "Terms", promises 19 to 22. */
final class TransferBoundaries {
    private static final int LEAST = Integer.MIN_VALUE;
    private static final int MOST = Integer.MAX_VALUE;
    private static final int LINES_END = 27;

    private TransferBoundaries() {
    }

    /** Sets 10 (not guarded: 5, 6 and 7 that doesn't count) and 20 (guarded, empty). */
    private static LibraryTools house() {
        LibraryTools x = new LibraryTools();
        x.define(10, false);
        x.define(20, true);
        x.generate(1, 2, 5, 1);
        x.record(1, 7);
        return x;
    }

    /** So many sets, not guarded, with names from 0 on. */
    private static LibraryTools withSets(int sets) {
        LibraryTools x = new LibraryTools();
        for (int i = 0; i < sets; i++) {
            x.define(i, false);
        }
        return x;
    }

    /** An export whose second line of a dump is of these bytes. */
    private static LibraryTools exported(int a, int b, int e, int f) {
        LibraryTools x = new LibraryTools();
        x.define(1, false);
        x.generate(1, 1, a << 24 | b << 16 | e << 8 | f, 0);
        x.export0(1);
        return x;
    }

    @Sentence(words = "AN EXPORT of a set: bytes 69, its name, 1 if it is guarded, else 0, how many records count")
    static void anExportBeginsWithFourBytes(Checks c) {
        LibraryTools x = new LibraryTools();
        x.define(0, true);
        x.define(99, false);
        c.due("four bytes", x.export0(1), 4);
        c.dueText("name 0, guarded", Checks.octets(x, 4), "69 0 1 0");
        c.due("four bytes", x.export0(2), 4);
        c.dueText("name 99, not guarded", Checks.octets(x, 4), "69 99 0 0");
        x.generate(2, 60, 0, 0);
        c.due("sixty", x.export0(2), 244);
        c.due("how many count", x.octet(3), 60);
    }

    @Sentence(words = "how many records count, and these, four bytes each, the highest first")
    static void onlyRecordsThatCountAreExported(Checks c) {
        LibraryTools x = house();
        c.due("two of three", x.export0(1), 12);
        c.dueText("two", Checks.octets(x, 12), "69 10 0 2 0 0 0 5 0 0 0 6");
        LibraryTools y = withSets(1);
        y.record(0, 5);
        y.record(1, LEAST);
        y.record(1, MOST);
        y.record(1, -1);
        y.record(1, 0x7F80FF01);
        c.due("none of four", y.export0(1), 4);
        y.verify(1);
        c.due("four", y.export0(1), 20);
        c.dueText("their bytes", Checks.octets(y, 20),
            "69 0 0 4 -128 0 0 0 127 -1 -1 -1 -1 -1 -1 -1 127 -128 -1 1");
    }

    @Sentence(promise = 19, words = "-2 (the latest export stays)")
    static void withoutTheSetTheLatestExportStays(Checks c) {
        LibraryTools x = house();
        x.export0(1);
        for (int set : new int[] {0, -1, 3, 21, LEAST, MOST}) {
            c.due("set " + set, x.export0(set), -2);
        }
        x.delete(1);
        c.due("one that is gone", x.export0(1), -2);
        c.dueText("it stays", Checks.octets(x, 12), "69 10 0 2 0 0 0 5 0 0 0 6");
        c.due("its dump, too", x.dump(2, 16), '6');
        c.due("a shorter one", x.export0(2), 4);
        c.dueThrow("nothing is left behind", x, 4);
        c.due("nor in the dump", x.dump(1, 0), -1);
    }

    @Sentence(promise = 19, words = "A set is exported: how many bytes")
    static void anExportStaysAsItWas(Checks c) {
        LibraryTools x = house();
        c.due("twelve", x.export0(1), 12);
        x.alter(1, 11);
        x.verify(1);
        x.generate(1, 1, 9, 1);
        c.dueText("it stays", Checks.octets(x, 12), "69 10 0 2 0 0 0 5 0 0 0 6");
        c.dueThrow("no byte more", x, 12);
        c.due("a new one", x.export0(1), 20);
        c.due("its name", x.octet(1), 11);
        c.due("its last byte", x.octet(19), 9);
    }

    @Sentence(promise = 20, words = "ArrayIndexOutOfBoundsException behind the end.")
    static void octetThrowsBehindTheEnd(Checks c) {
        LibraryTools x = house();
        for (int i : new int[] {0, 3, -1, LEAST, MOST}) {
            c.dueThrow("without an export: " + i, x, i);
        }
        x.export0(2);
        c.due("the last of four", x.octet(3), 0);
        c.dueThrow("the fifth of four", x, 4);
        x.export0(1);
        c.due("the first", x.octet(0), 69);
        c.due("the last of twelve", x.octet(11), 6);
        for (int i : new int[] {12, 13, 243, 244, 245, -1, -2, LEAST, MOST}) {
            c.dueThrow("of twelve: " + i, x, i);
        }
        x.generate(1, 58, 1, 1);
        x.export0(1);
        c.due("the last of 244", x.octet(243), 58);
        c.dueThrow("behind 244", x, 244);
    }

    @Sentence(words = "IMPORTING takes such bytes one by one: a set of that name (it is made")
    static void anImportMakesASet(Checks c) {
        LibraryTools x = new LibraryTools();
        c.dueText("name 0, guarded, without records", Checks.bring(x, 69, 0, 1, 0), "0 0 0 1");
        c.dueText("it is there", Checks.readSet(x, 1), "0 0 0 1 0");
        c.dueText("name 99, not guarded, one record", Checks.bring(x, 69, 99, 0, 1, 128, 0, 0, 1), "0 0 0 0 0 0 0 2");
        c.dueText("it is there", Checks.readSet(x, 2), "99 1 1 0 " + (LEAST + 1));
        c.dueText("of a name that is gone", Checks.bring(x, 69, 5, 0, 0), "0 0 0 3");
        x.delete(3);
        c.dueText("a new number", Checks.bring(x, 69, 5, 0, 0), "0 0 0 4");
        c.due("count(2)", x.count(2), 4);
    }

    @Sentence(words = "or, if it isn't guarded, replaced: its records, guard, END MARK")
    static void anImportReplacesASet(Checks c) {
        LibraryTools x = house();
        c.dueText("no records", Checks.bring(x, 69, 10, 0, 0), "0 0 0 1");
        c.dueText("none", Checks.readSet(x, 1), "10 0 0 0 0");
        x.record(1, 3);
        c.dueText("one record, guarded", Checks.bring(x, 69, 10, 1, 1, 255, 255, 255, 254), "0 0 0 0 0 0 0 1");
        c.dueText("one", Checks.readSet(x, 1), "10 1 1 1 -2");
        c.due("none came", x.count(2), 2);
    }

    @Sentence(words = "(another first one;")
    static void anImportBeginsWith69(Checks c) {
        LibraryTools x = house();
        for (int first : new int[] {68, 70, 0, 1, 127, 128, 255}) {
            c.dueText("first " + first, Checks.bring(x, first), "-1");
            c.due("none came", x.count(5), 0);
        }
        c.dueText("69", Checks.bring(x, 69), "0");
    }

    @Sentence(words = "a name above 99;")
    static void anImportsNameIsAtMost99(Checks c) {
        LibraryTools x = house();
        for (int name : new int[] {100, 101, 127, 128, 255}) {
            c.dueText("name " + name, Checks.bring(x, 69, name), "0 -1");
            c.due("anew", x.count(5), 0);
        }
        c.dueText("name 99", Checks.bring(x, 69, 99, 0, 0), "0 0 0 3");
        c.dueText("name 0", Checks.bring(x, 69, 0, 0, 0), "0 0 0 4");
    }

    @Sentence(words = "a guard above 1;")
    static void anImportsGuardIsAtMost1(Checks c) {
        LibraryTools x = house();
        for (int guard : new int[] {2, 3, 127, 128, 255}) {
            c.dueText("guard " + guard, Checks.bring(x, 69, 10, guard), "0 0 -1");
            c.due("anew", x.count(5), 0);
        }
        c.dueText("the set stays", Checks.readSet(x, 1), "10 3 2 0 6");
        c.dueText("guard 0", Checks.bring(x, 69, 10, 0, 0), "0 0 0 1");
        c.due("not guarded", x.set(1, 3), 0);
        c.dueText("guard 1", Checks.bring(x, 69, 10, 1, 0), "0 0 0 1");
        c.due("guarded", x.set(1, 3), 1);
    }

    @Sentence(words = "more than 60;")
    static void anImportHasAtMost60Records(Checks c) {
        LibraryTools x = house();
        for (int records : new int[] {61, 62, 127, 128, 255}) {
            c.dueText("records " + records, Checks.bring(x, 69, 10, 1, records), "0 0 0 -1");
            c.due("anew", x.count(5), 0);
        }
        c.dueText("the set stays", Checks.readSet(x, 1), "10 3 2 0 6");
        c.dueText("sixty", Checks.bring(x, 69, 10, 1, 60), "0 0 0 0");
        for (int i = 1; i <= 239; i++) {
            c.due("byte " + i, x.import0((byte) 255), 0);
        }
        c.due("243 came", x.count(5), 243);
        c.due("the last one", x.import0((byte) 254), 1);
        c.dueText("sixty", Checks.readSet(x, 1), "10 60 60 1 -2");
    }

    @Sentence(words = "a guarded set of the name")
    static void aGuardedSetIsNotReplaced(Checks c) {
        LibraryTools x = house();
        c.dueText("at its name", Checks.bring(x, 69, 20), "0 -1");
        c.due("anew", x.count(5), 0);
        c.dueText("not there at its name", Checks.bring(x, 69, 30, 0, 1, 0, 0, 0), "0 0 0 0 0 0 0");
        x.define(30, true);
        c.dueText("there with the last byte", Checks.bring(x, 9), "-1");
        c.dueText("it stays", Checks.readSet(x, 3), "30 0 0 1 0");
        c.due("anew", x.count(5), 0);
        c.dueText("not guarded at its name", Checks.bring(x, 69, 10, 0), "0 0 0");
        x.alter(1, 11);
        x.alter(2, 10);
        c.dueText("another one has the name with the last byte", Checks.bring(x, 0), "-1");
        c.dueText("it stays", Checks.readSet(x, 2), "10 0 0 1 0");
    }

    @Sentence(words = "the 21st set: at its name, or with the last byte")
    static void theTwentyFirstSetCantBe(Checks c) {
        LibraryTools x = withSets(19);
        c.dueText("the 20th at its name", Checks.bring(x, 69, 50, 0), "0 0 0");
        x.define(60, false);
        c.dueText("the 21st with the last byte", Checks.bring(x, 0), "-1");
        c.due("anew", x.count(5), 0);
        c.dueText("the 21st at its name", Checks.bring(x, 69, 50), "0 -1");
        c.dueText("one that is there", Checks.bring(x, 69, 60, 0, 0), "0 0 0 20");
        c.dueText("one that is there at its name", Checks.bring(x, 69, 60, 0), "0 0 0");
        x.delete(20);
        c.dueText("and gone with the last byte", Checks.bring(x, 0), "-1");
        c.dueText("and gone at its name", Checks.bring(x, 69, 60), "0 -1");
        c.due("twenty stay", x.count(2), 20);
        LibraryTools y = withSets(19);
        c.dueText("the 20th", Checks.bring(y, 69, 50, 0, 0), "0 0 0 20");
    }

    @Sentence(words = "it begins anew (with the next byte)")
    static void itBeginsAnewWithTheNextByte(Checks c) {
        LibraryTools x = house();
        c.dueText("the wrong byte is no first one", Checks.bring(x, 69, 10, 69, 10), "0 0 -1 -1");
        c.dueText("69 is a name", Checks.bring(x, 69, 69, 69, 69), "0 0 -1 0");
        c.dueText("the next ones go on", Checks.bring(x, 12, 1, 0), "0 0 3");
        c.dueText("behind a whole one it begins, too", Checks.bring(x, 13), "-1");
        c.dueText("a length of 69", Checks.bring(x, 69, 13, 0, 69, 69, 13, 0, 0), "0 0 0 -1 0 0 0 4");
    }

    @Sentence(promise = 21, words = "0 as long as some are missing, the set with the last one; NONE it can't be")
    static void theLastByteTellsTheSet(Checks c) {
        LibraryTools x = house();
        c.dueText("without records the fourth is the last", Checks.bring(x, 69, 30, 0, 0), "0 0 0 3");
        c.dueText("one record", Checks.bring(x, 69, 31, 0, 1, 69, 69, 69, 69), "0 0 0 0 0 0 0 4");
        c.due("any byte can be a record's", x.set(4, 4), 0x45454545);
        c.dueText("two records", Checks.bring(x, 69, 32, 0, 2, 0, 0, 0, 1, 255, 255, 255, 255),
            "0 0 0 0 0 0 0 0 0 0 0 5");
        c.due("the latest", x.set(5, 4), -1);
        c.due("the set isn't there before", x.import0((byte) 69), 0);
        Checks.bring(x, 33, 0, 1, 0, 0, 0);
        c.due("count(2)", x.count(2), 5);
        c.due("the last one", x.import0((byte) 3), 6);
        c.due("NONE", x.import0((byte) 3), LibraryTools.NONE);
    }

    @Sentence(promise = 21, words = "A byte of an import")
    static void otherCallsLeaveAnImport(Checks c) {
        LibraryTools x = house();
        c.dueText("the first bytes", Checks.bring(x, 69, 30, 1, 1, 1), "0 0 0 0 0");
        x.export0(1);
        x.step();
        x.dry(true);
        x.change(1, 'A');
        x.define(31, false);
        c.due("five came", x.count(5), 5);
        c.dueText("the other ones", Checks.bring(x, 2, 3, 4), "0 0 4");
        c.dueText("the set", Checks.readSet(x, 4), "30 1 1 1 " + 0x01020304);
        c.dueText("the export is another one", Checks.octets(x, 12), "69 10 0 2 0 0 0 5 0 0 0 6");
    }

    @Sentence(words = "DUMPS of the latest export: lines of 4 bytes: four decimal digits of the place, a colon")
    static void aDumpsLinesHaveFourBytes(Checks c) {
        LibraryTools x = withSets(1);
        x.export0(1);
        c.dueText("the first line", Checks.dumpLine(x, 0), "0000: 45 00 00 00 E... ....");
        c.due("the only one", x.dump(1, 0), -1);
        x.generate(1, 60, 0, 0);
        x.export0(1);
        c.dueText("place 4", Checks.dumpLine(x, 1).substring(0, 5), "0004:");
        c.dueText("place 8", Checks.dumpLine(x, 2).substring(0, 5), "0008:");
        c.dueText("place 12", Checks.dumpLine(x, 3).substring(0, 5), "0012:");
        c.dueText("place 96", Checks.dumpLine(x, 24).substring(0, 5), "0096:");
        c.dueText("place 100", Checks.dumpLine(x, 25).substring(0, 5), "0100:");
        c.dueText("the last line", Checks.dumpLine(x, 60), "0240: 00 00 00 00 .... ....");
        c.due("none behind", x.dump(61, 0), -1);
    }

    @Sentence(words = "of each byte a blank and two digits (of 16, A .. F)")
    static void aDumpsDigitsGoFrom0ToF(Checks c) {
        c.dueText("0, 9, 10, 15", Checks.dumpLine(exported(0x00, 0x09, 0x0A, 0x0F), 1).substring(5, 17), " 00 09 0A 0F");
        c.dueText("16, 159, 160, 255", Checks.dumpLine(exported(0x10, 0x9F, 0xA0, 0xFF), 1).substring(5, 17), " 10 9F A0 FF");
        c.dueText("127, 128, 144, 240", Checks.dumpLine(exported(0x7F, 0x80, 0x90, 0xF0), 1).substring(5, 17), " 7F 80 90 F0");
    }

    @Sentence(words = "a blank, each byte as a sign (below 32 and above 126 a point)")
    static void aDumpsSignsGoFrom32To126(Checks c) {
        c.dueText("31, 32, 33, 0", Checks.dumpLine(exported(31, 32, 33, 0), 1).substring(17, 22), " . !.");
        c.dueText("125, 126, 127, 128", Checks.dumpLine(exported(125, 126, 127, 128), 1).substring(17, 22), " }~..");
        c.dueText("160, 255, 193, 64", Checks.dumpLine(exported(160, 255, 193, 64), 1).substring(17, 22), " ...@");
    }

    @Sentence(words = "each byte by the other code (193 .. 201 A .. I, 209 .. 217 J .. R, 226 .. 233 S .. Z, 240 .. 249 digits, 64 a blank, else a point)")
    static void aDumpsOtherCodeHasEnds(Checks c) {
        c.dueText("A and I", Checks.dumpLine(exported(192, 193, 201, 202), 1).substring(22), " .AI.");
        c.dueText("J and R", Checks.dumpLine(exported(208, 209, 217, 218), 1).substring(22), " .JR.");
        c.dueText("S and Z", Checks.dumpLine(exported(225, 226, 233, 234), 1).substring(22), " .SZ.");
        c.dueText("0 and 9", Checks.dumpLine(exported(239, 240, 249, 250), 1).substring(22), " .09.");
        c.dueText("a blank", Checks.dumpLine(exported(63, 64, 65, 48), 1).substring(22), " . ..");
        c.dueText("the least and the greatest", Checks.dumpLine(exported(0, 255, 32, 126), 1).substring(22), " ....");
        c.dueText("the first byte and the last", Checks.dumpLine(exported(193, 0, 255, 249), 1).substring(22), " A..9");
    }

    @Sentence(promise = 22, words = "The k-th sign of the i-th line of a dump; NONE without one.")
    static void aDumpsLinesAndSignsHaveEnds(Checks c) {
        LibraryTools x = house();
        c.due("without an export", x.dump(0, 0), -1);
        x.export0(1);
        c.due("the first sign", x.dump(0, 0), '0');
        c.due("the last sign of the last line", x.dump(2, LINES_END - 1), '.');
        for (int i : new int[] {-1, 3, 60, 1 << 30, LEAST, MOST}) {
            c.due("line " + i, x.dump(i, 0), -1);
            c.due("line " + i, x.dump(i, 4), -1);
            c.due("line " + i, x.dump(i, 18), -1);
        }
        for (int k : new int[] {-1, LINES_END, LINES_END + 1, LEAST, MOST}) {
            c.due("sign " + k, x.dump(0, k), -1);
            c.due("sign " + k, x.dump(2, k), -1);
        }
    }
}
