/** Counts and tells the answers that are not as due. */
final class Checks {
    private final String title;
    private int made;
    private int wrong;

    Checks(String title) {
        this.title = title;
    }

    void due(String call, long got, long want) {
        made++;
        if (got != want) {
            wrong++;
            System.out.println(title + ": " + call + " answered " + got + ", due is " + want);
        }
    }

    void dueThrow(String call, LibraryTools x, int i) {
        made++;
        try {
            int got = x.octet(i);
            wrong++;
            System.out.println(title + ": " + call + " answered " + got + ", due is an exception");
        } catch (ArrayIndexOutOfBoundsException e) {
            // The machine's own exception, of an index that was not looked at, bears a text.
            if (e.getMessage() != null) {
                wrong++;
                System.out.println(title + ": " + call + " let the machine throw: " + e.getMessage());
            }
        }
    }

    void dueText(String call, String got, String want) {
        made++;
        if (!got.equals(want)) {
            wrong++;
            System.out.println(title + ": " + call + " answered \"" + got + "\", due is \"" + want + "\"");
        }
    }

    void fail(String what) {
        made++;
        wrong++;
        System.out.println(title + ": " + what);
    }

    int made() {
        return made;
    }

    int wrong() {
        return wrong;
    }

    /** Ends the test, with exit code 1 if an answer was wrong. */
    void end() {
        System.out.println(title + ": " + made + " answers, " + wrong + " wrong");
        if (wrong != 0 || made == 0) {
            System.exit(1);
        }
    }

    /** Adds the signs of a text to a member's line. */
    static void write(LibraryTools x, int member, int number, String text) {
        for (int k = 0; k < text.length(); k++) {
            x.line(member, number, text.charAt(k));
        }
    }

    /** Adds a CHANGE with the signs of a text. */
    static void changeTo(LibraryTools x, int number, String text) {
        for (int k = 0; k < text.length(); k++) {
            x.change(number, text.charAt(k));
        }
    }

    /** A member as "5=AB 10=C", or "" without lines or without the member. */
    static String read(LibraryTools x, int member) {
        StringBuilder all = new StringBuilder();
        int number = x.letter(member, 0, -1);
        for (int i = 1; number != LibraryTools.NONE; i++) {
            all.append(i == 1 ? "" : " ").append(number).append('=').append(readLine(x, member, i - 1));
            number = x.letter(member, i, -1);
        }
        return all.toString();
    }

    /** The signs of a member's line, or "" without. */
    static String readLine(LibraryTools x, int member, int i) {
        StringBuilder all = new StringBuilder();
        int sign = x.letter(member, i, 0);
        for (int k = 1; sign != LibraryTools.NONE; k++) {
            all.append((char) sign);
            sign = x.letter(member, i, k);
        }
        return all.toString();
    }

    /** The differences of the latest comparison as "1:2/0 3:4/5". */
    static String differences(LibraryTools x) {
        StringBuilder all = new StringBuilder();
        int kind = x.differ(0, 0);
        for (int i = 0; kind != LibraryTools.NONE; i++) {
            all.append(i == 0 ? "" : " ").append(kind).append(':');
            all.append(x.differ(i, 1)).append('/').append(x.differ(i, 2));
            kind = x.differ(i + 1, 0);
        }
        return all.toString();
    }

    /** A set as "name records endmark guard latest". */
    static String readSet(LibraryTools x, int set) {
        return x.set(set, 0) + " " + x.set(set, 1) + " " + x.set(set, 2) + " " + x.set(set, 3) + " " + x.set(set, 4);
    }

    /** The answers of an import of these bytes, one behind the other. */
    static String bring(LibraryTools x, int... bytes) {
        StringBuilder all = new StringBuilder();
        for (int k = 0; k < bytes.length; k++) {
            all.append(k == 0 ? "" : " ").append(x.import0((byte) bytes[k]));
        }
        return all.toString();
    }

    /** The bytes of the latest export, of which there are so many. */
    static String octets(LibraryTools x, int length) {
        StringBuilder all = new StringBuilder();
        for (int i = 0; i < length; i++) {
            all.append(i == 0 ? "" : " ").append(x.octet(i));
        }
        return all.toString();
    }

    static String dumpLine(LibraryTools x, int i) {
        StringBuilder all = new StringBuilder();
        int sign = x.dump(i, 0);
        for (int k = 1; sign != LibraryTools.NONE; k++) {
            all.append((char) sign);
            sign = x.dump(i, k);
        }
        return all.toString();
    }
}
