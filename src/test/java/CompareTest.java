/** Promises 7 compare, 8 differ, 9 ahead. */
public final class CompareTest {
    private static final Checks checks = new Checks("compare");

    public static void main(String[] args) {
        signsCountAndNumbersDoNot();
        theNearestMeetingWins();
        bothMustHaveANextLine();
        restsAreTold();
        lookAheadHasLimits();
        longMembersAreCompared();
        wrongCallsLeaveTheLatest();
        checks.end();
    }

    /** Members 1 and 2, a sign a line, numbered 10, 20 .. and 11, 21 .. */
    private static LibraryTools house(String first, String second) {
        LibraryTools x = new LibraryTools();
        x.library(false);
        x.member(1, 1);
        x.member(1, 2);
        for (int i = 0; i < first.length(); i++) {
            x.line(1, 10 * (i + 1), first.charAt(i));
        }
        for (int i = 0; i < second.length(); i++) {
            x.line(2, 10 * (i + 1) + 1, second.charAt(i));
        }
        return x;
    }

    private static void told(String first, String second, int ahead, String want) {
        LibraryTools x = house(first, second);
        x.ahead(ahead);
        String call = first + " with " + second + " ahead " + ahead;
        int size = want.isEmpty() ? 0 : want.split(" ").length;
        checks.due(call, x.compare(1, 2), size);
        checks.dueText(call, Checks.differences(x), want);
        checks.due("count(4)", x.count(4), size);
    }

    private static void signsCountAndNumbersDoNot() {
        told("ABC", "ABC", 3, "");
        LibraryTools x = house("A", "A");
        checks.due("onto itself", x.compare(1, 1), 0);
        x.line(2, 11, 'B');
        checks.due("a longer line", x.compare(1, 2), 1);
        checks.dueText("a longer line", Checks.differences(x), "3:10/11");
        checks.due("a shorter line", x.compare(2, 1), 1);
        checks.dueText("a shorter line", Checks.differences(x), "3:11/10");
        x.line(1, 10, 'C');
        checks.due("the second sign", x.compare(1, 2), 1);
    }

    private static void theNearestMeetingWins() {
        told("ABC", "AXBC", 3, "2:0/21");
        told("AXBC", "ABC", 3, "1:20/0");
        told("ABC", "AXYZBC", 3, "2:0/21 2:0/31 2:0/41");
        told("ABC", "AXYZBC", 2, "3:20/21 3:30/31 2:0/41 2:0/51 2:0/61");
        told("PQX", "RSX", 3, "3:10/11 1:20/0 2:0/21");
        told("PQX", "RSX", 4, "1:10/0 1:20/0 2:0/11 2:0/21");
        // With one line left in all, leaving the second one's comes first.
        told("AB", "BA", 1, "2:0/11 1:20/0");
        // With two in all, the fewest of the first one's: two of the second one's.
        told("ABC", "CXAB", 2, "2:0/11 2:0/21 1:30/0");
        told("PX", "QX", 2, "1:10/0 2:0/11");
        told("PX", "QX", 1, "3:10/11");
        // The fewest in all come before the fewest of the first one's.
        told("ABQ", "BXXA", 3, "1:10/0 3:30/21 2:0/31 2:0/41");
    }

    private static void bothMustHaveANextLine() {
        told("A", "B", 9, "3:10/11");
        told("AB", "C", 9, "3:10/11 1:20/0");
        told("A", "BC", 9, "3:10/11 2:0/21");
        told("A", "BA", 1, "2:0/11");
        told("A", "BA", 0, "3:10/11 2:0/21");
    }

    private static void restsAreTold() {
        told("ABC", "A", 3, "1:20/0 1:30/0");
        told("A", "ABC", 3, "2:0/21 2:0/31");
        told("", "AB", 3, "2:0/11 2:0/21");
        told("AB", "", 3, "1:10/0 1:20/0");
        told("", "", 3, "");
    }

    private static void lookAheadHasLimits() {
        LibraryTools x = new LibraryTools();
        checks.due("3 at first", x.ahead(0), 3);
        checks.due("0", x.ahead(9), 0);
        checks.due("10", x.ahead(10), -4);
        checks.due("-1", x.ahead(-1), -4);
        checks.due("9 stays", x.ahead(5), 9);
        checks.due("5", x.ahead(5), 5);
        told("ABCDEFGHIJ", "J", 9, "1:10/0 1:20/0 1:30/0 1:40/0 1:50/0 1:60/0 1:70/0 1:80/0 1:90/0");
        told("ABCDEFGHIJK", "K", 9, "3:10/11 1:20/0 1:30/0 1:40/0 1:50/0 1:60/0 1:70/0 1:80/0 1:90/0 1:100/0 1:110/0");
        told("ABCD", "D", 3, "1:10/0 1:20/0 1:30/0");
    }

    private static void longMembersAreCompared() {
        LibraryTools x = house("ABCDEFGHIJKLMNOPQRSTUVWXYZ0123", "abcdefghijklmnopqrstuvwxyz4567");
        checks.due("all others", x.compare(1, 2), 30);
        LibraryTools y = house("A!B!C!D!E!F!G!H!I!J!K!L!M!N!O!", "a!b!c!d!e!f!g!h!i!j!k!l!m!n!o!");
        checks.due("each left and met", y.compare(1, 2), 30);
        LibraryTools z = new LibraryTools();
        z.library(false);
        z.member(1, 1);
        z.member(1, 2);
        for (int i = 1; i <= 30; i++) {
            z.line(1, i, 65);
            z.line(2, i, 66);
        }
        checks.due("differ at the end", z.compare(1, 2), 30);
        checks.due("the last one", z.differ(29, 2), 30);
        checks.due("no other one", z.differ(30, 0), -1);
    }

    private static void wrongCallsLeaveTheLatest() {
        LibraryTools x = house("AB", "A");
        x.compare(1, 2);
        checks.due("no second", x.compare(1, 3), -2);
        checks.due("no first", x.compare(0, 1), -2);
        checks.dueText("the latest stays", Checks.differences(x), "1:20/0");
        checks.due("what 3", x.differ(0, 3), -1);
        checks.due("what -1", x.differ(0, -1), -1);
        checks.due("i -1", x.differ(-1, 0), -1);
        checks.due("i 1", x.differ(1, 0), -1);
        x.line(1, 15, 65);
        checks.dueText("it is not compared anew", Checks.differences(x), "1:20/0");
        checks.due("none any more", x.compare(2, 2), 0);
        checks.due("no difference", x.differ(0, 0), -1);
    }
}
