import java.util.ArrayList;
import java.util.List;
import java.util.Map;
import java.util.TreeMap;

/**
 * The document told a second time, with the collections of the Java library and without a thought
 * of speed or room, so that long random runs have something to be held against.
 */
final class PlainModel {
    private static final int NONE = -1;

    private static final class Member {
        int library;
        int name;
        boolean gone;
        TreeMap<Integer, String> lines = new TreeMap<>();
    }

    private static final class Set {
        int name;
        boolean guarded;
        boolean gone;
        List<Integer> records = new ArrayList<>();
        int endMark;
    }

    private record Change(int number, String signs) { }

    private record Difference(int kind, int first, int second) { }

    private final List<Boolean> libraries = new ArrayList<>();
    private final List<Member> members = new ArrayList<>();
    private final List<Set> sets = new ArrayList<>();
    private final List<Change> changes = new ArrayList<>();
    private List<Difference> differences = new ArrayList<>();
    private List<Integer> exported = new ArrayList<>();
    private final List<Integer> arriving = new ArrayList<>();
    private int ahead = 3;
    private int greatest;
    private boolean dry;
    private int dryActs;

    int library(boolean replaces) {
        if (libraries.size() == 6) {
            return NONE;
        }
        libraries.add(replaces);
        return libraries.size();
    }

    int member(int library, int name) {
        if (!isLibrary(library)) {
            return -2;
        }
        if (!isName(name)) {
            return -4;
        }
        if (find(library, name) != 0) {
            return -5;
        }
        return members.size() == 80 ? NONE : newMember(library, name);
    }

    void line(int member, int number, int c) {
        Member m = memberOf(member);
        if (m == null || !isNumber(number) || !isSign(c)) {
            return;
        }
        String old = m.lines.get(number);
        if (old == null && m.lines.size() < 30) {
            m.lines.put(number, "" + (char) c);
        } else if (old != null && old.length() < 10) {
            m.lines.put(number, old + (char) c);
        }
    }

    int copy(int from, int to, int name, int as) {
        return copyOrMove(from, to, name, as, false);
    }

    int move(int from, int to, int name, int as) {
        return copyOrMove(from, to, name, as, true);
    }

    private int copyOrMove(int from, int to, int name, int as, boolean moves) {
        if (!isLibrary(from) || !isLibrary(to)) {
            return -2;
        }
        if (!isName(name) && (moves || name != NONE) || !isName(as) && as != NONE) {
            return -4;
        }
        List<Member> sources = new ArrayList<>();
        for (int each = 0; each < 100; each++) {
            int found = find(from, each);
            if (found != 0 && (name == NONE || name == each)) {
                sources.add(members.get(found - 1));
            }
        }
        if (sources.isEmpty() || sources.size() > 1 && as != NONE) {
            return act(8);
        }
        List<Integer> targets = new ArrayList<>();
        int fresh = 0;
        boolean leavesOut = false;
        for (Member each : sources) {
            int target = find(to, as == NONE ? each.name : as);
            targets.add(target);
            fresh += target == 0 ? 1 : 0;
            leavesOut |= target != 0 && members.get(target - 1) != each && !libraries.get(to - 1);
        }
        if (members.size() + fresh > 80) {
            return act(12);
        }
        if (!dry) {
            for (int i = 0; i < sources.size(); i++) {
                carryOver(sources.get(i), targets.get(i), to, as, moves);
            }
        }
        return act(leavesOut ? 4 : 0);
    }

    private void carryOver(Member source, int target, int to, int as, boolean moves) {
        if (target != 0 && (members.get(target - 1) == source || !libraries.get(to - 1))) {
            return;
        }
        int number = target != 0 ? target : newMember(to, as == NONE ? source.name : as);
        members.get(number - 1).lines = new TreeMap<>(source.lines);
        source.gone = moves;
    }

    int compare(int a, int b) {
        Member first = memberOf(a);
        Member second = memberOf(b);
        if (first == null || second == null) {
            return -2;
        }
        differences = new ArrayList<>();
        List<Map.Entry<Integer, String>> p = new ArrayList<>(first.lines.entrySet());
        List<Map.Entry<Integer, String>> q = new ArrayList<>(second.lines.entrySet());
        while (!p.isEmpty() && !q.isEmpty()) {
            int[] left = left(p, q);
            if (left == null) {
                differences.add(new Difference(3, p.remove(0).getKey(), q.remove(0).getKey()));
                continue;
            }
            leave(p, left[0], 1);
            leave(q, left[1], 2);
            p.remove(0);
            q.remove(0);
        }
        leave(p, p.size(), 1);
        leave(q, q.size(), 2);
        return differences.size();
    }

    private int[] left(List<Map.Entry<Integer, String>> p, List<Map.Entry<Integer, String>> q) {
        for (int all = 0; all <= ahead; all++) {
            for (int i = 0; i <= all; i++) {
                int j = all - i;
                if (i < p.size() && j < q.size() && p.get(i).getValue().equals(q.get(j).getValue())) {
                    return new int[] {i, j};
                }
            }
        }
        return null;
    }

    private void leave(List<Map.Entry<Integer, String>> lines, int n, int kind) {
        for (int i = 0; i < n; i++) {
            int number = lines.remove(0).getKey();
            differences.add(new Difference(kind, kind == 1 ? number : 0, kind == 2 ? number : 0));
        }
    }

    int differ(int i, int what) {
        if (i < 0 || i >= differences.size()) {
            return NONE;
        }
        Difference d = differences.get(i);
        return what == 0 ? d.kind : what == 1 ? d.first : what == 2 ? d.second : NONE;
    }

    int ahead(int n) {
        if (n < 0 || n > 9) {
            return -4;
        }
        int before = ahead;
        ahead = n;
        return before;
    }

    void change(int number, int c) {
        if (!isNumber(number) || c != 0 && !isSign(c)) {
            return;
        }
        int last = changes.size() - 1;
        Change latest = last < 0 ? new Change(0, "") : changes.get(last);
        boolean grows = c != 0 && latest.number == number && !latest.signs.isEmpty() && latest.signs.length() < 10;
        if (grows) {
            changes.set(last, new Change(number, latest.signs + (char) c));
        } else if (changes.size() < 20) {
            changes.add(new Change(number, c == 0 ? "" : "" + (char) c));
        }
    }

    int update(int member) {
        Member m = memberOf(member);
        if (m == null) {
            return -100;
        }
        List<Change> text = new ArrayList<>(changes);
        changes.clear();
        TreeMap<Integer, String> lines = new TreeMap<>(m.lines);
        for (int i = 0; i < text.size(); i++) {
            Change each = text.get(i);
            if (i > 0 && each.number <= text.get(i - 1).number) {
                return -(i + 1);
            }
            if (!each.signs.isEmpty()) {
                lines.put(each.number, each.signs);
            } else if (lines.remove(each.number) == null) {
                return -(i + 1);
            }
            if (lines.size() > 30) {
                return -(i + 1);
            }
        }
        m.lines = lines;
        return lines.size();
    }

    int define(int name, boolean guarded) {
        if (!isName(name)) {
            return -4;
        }
        if (setNamed(name) != 0) {
            return -5;
        }
        return sets.size() == 20 ? NONE : newSet(name, guarded);
    }

    int record(int set, int v) {
        Set s = setOf(set);
        if (s == null) {
            return -2;
        }
        if (s.records.size() == 60) {
            return NONE;
        }
        s.records.add(v);
        return s.records.size();
    }

    int delete(int set) {
        Set s = setOf(set);
        if (s == null) {
            return -2;
        }
        if (s.guarded) {
            return act(8);
        }
        s.gone = !dry;
        return act(0);
    }

    int alter(int set, int name) {
        Set s = setOf(set);
        if (s == null) {
            return -2;
        }
        if (!isName(name)) {
            return -4;
        }
        int holder = setNamed(name);
        if (holder != 0) {
            return act(holder == set ? 4 : 8);
        }
        s.name = dry ? s.name : name;
        return act(0);
    }

    int repro(int from, int to) {
        Set s = setOf(from);
        Set t = setOf(to);
        if (s == null || t == null) {
            return -2;
        }
        return from == to ? act(8) : append(t, new ArrayList<>(s.records.subList(0, s.endMark)));
    }

    int generate(int set, int n, int v, int step) {
        Set s = setOf(set);
        if (s == null) {
            return -2;
        }
        if (n < 1 || n > 60) {
            return -4;
        }
        List<Integer> made = new ArrayList<>();
        for (int i = 0; i < n; i++) {
            made.add(v + i * step);
        }
        return append(s, made);
    }

    private int append(Set t, List<Integer> more) {
        if (t.endMark + more.size() > 60) {
            return act(12);
        }
        if (more.isEmpty()) {
            return act(4);
        }
        if (!dry) {
            t.records.subList(t.endMark, t.records.size()).clear();
            t.records.addAll(more);
            t.endMark = t.records.size();
        }
        return act(0);
    }

    int verify(int set) {
        Set s = setOf(set);
        if (s == null) {
            return -2;
        }
        if (s.endMark == s.records.size()) {
            return act(4);
        }
        s.endMark = dry ? s.endMark : s.records.size();
        return act(0);
    }

    int export0(int set) {
        Set s = setOf(set);
        if (s == null) {
            return -2;
        }
        exported = new ArrayList<>(List.of(69, s.name, s.guarded ? 1 : 0, s.endMark));
        for (int i = 0; i < s.endMark; i++) {
            for (int shift = 24; shift >= 0; shift -= 8) {
                exported.add(s.records.get(i) >> shift & 255);
            }
        }
        return exported.size();
    }

    /** A thousand stands for the exception. */
    int octet(int i) {
        return i < 0 || i >= exported.size() ? 1000 : (byte) (int) exported.get(i);
    }

    int import0(byte b) {
        arriving.add(Byte.toUnsignedInt(b));
        int n = arriving.size();
        int value = arriving.get(n - 1);
        boolean whole = n >= 4 && n == 4 + 4 * arriving.get(3);
        boolean wrong = n == 1 && value != 69 || n == 2 && value > 99 || n == 3 && value > 1 || n == 4 && value > 60
            || (n == 2 || whole) && !mayCome(arriving.get(1));
        if (wrong) {
            arriving.clear();
            return NONE;
        }
        return whole ? takeOver() : 0;
    }

    private boolean mayCome(int name) {
        int holder = setNamed(name);
        return holder == 0 ? sets.size() < 20 : !sets.get(holder - 1).guarded;
    }

    private int takeOver() {
        int holder = setNamed(arriving.get(1));
        int number = holder == 0 ? newSet(arriving.get(1), false) : holder;
        Set s = sets.get(number - 1);
        s.guarded = arriving.get(2) == 1;
        s.records.clear();
        for (int i = 4; i < arriving.size(); i += 4) {
            int word = 0;
            for (int k = 0; k < 4; k++) {
                word = word * 256 + arriving.get(i + k);
            }
            s.records.add(word);
        }
        s.endMark = s.records.size();
        arriving.clear();
        return number;
    }

    int dump(int i, int k) {
        if (i < 0 || i >= exported.size() / 4) {
            return NONE;
        }
        StringBuilder bytes = new StringBuilder();
        StringBuilder signs = new StringBuilder();
        StringBuilder others = new StringBuilder();
        for (int each : exported.subList(4 * i, 4 * i + 4)) {
            bytes.append(String.format(" %02X", each));
            signs.append(each < 32 || each > 126 ? '.' : (char) each);
            others.append(otherCode(each));
        }
        String line = String.format("%04d:%s %s %s", 4 * i, bytes, signs, others);
        return k < 0 || k >= line.length() ? NONE : line.charAt(k);
    }

    private static char otherCode(int value) {
        String row = "ABCDEFGHI.......JKLMNOPQR........STUVWXYZ......0123456789";
        return value == 64 ? ' ' : value < 193 || value > 249 ? '.' : row.charAt(value - 193);
    }

    int dry(boolean on) {
        dry = on;
        return dryActs;
    }

    int greatest() {
        return greatest;
    }

    int step() {
        int before = greatest;
        greatest = 0;
        return before;
    }

    int find(int library, int name) {
        if (!isLibrary(library)) {
            return -2;
        }
        for (int i = 0; i < members.size(); i++) {
            Member m = members.get(i);
            if (!m.gone && m.library == library && m.name == name) {
                return i + 1;
            }
        }
        return 0;
    }

    int letter(int member, int i, int k) {
        Member m = memberOf(member);
        if (m == null || i < 0 || i >= m.lines.size()) {
            return NONE;
        }
        int number = new ArrayList<>(m.lines.keySet()).get(i);
        String signs = m.lines.get(number);
        return k == -1 ? number : k < 0 || k >= signs.length() ? NONE : signs.charAt(k);
    }

    int set(int set, int what) {
        Set s = setOf(set);
        if (s == null || what < 0 || what > 4) {
            return NONE;
        }
        int latest = s.endMark == 0 ? 0 : s.records.get(s.endMark - 1);
        return new int[] {s.name, s.records.size(), s.endMark, s.guarded ? 1 : 0, latest}[what];
    }

    int count(int what) {
        int[] all = {libraries.size(), members.size(), sets.size(), changes.size(), differences.size(), arriving.size()};
        return what < 0 || what > 5 ? NONE : all[what];
    }

    private int act(int code) {
        greatest = Math.max(greatest, code);
        dryActs += dry ? 1 : 0;
        return code;
    }

    private boolean isLibrary(int library) {
        return library >= 1 && library <= libraries.size();
    }

    private int newMember(int library, int name) {
        Member m = new Member();
        m.library = library;
        m.name = name;
        members.add(m);
        return members.size();
    }

    private Member memberOf(int member) {
        boolean there = member >= 1 && member <= members.size() && !members.get(member - 1).gone;
        return there ? members.get(member - 1) : null;
    }

    private int newSet(int name, boolean guarded) {
        Set s = new Set();
        s.name = name;
        s.guarded = guarded;
        sets.add(s);
        return sets.size();
    }

    private Set setOf(int set) {
        boolean there = set >= 1 && set <= sets.size() && !sets.get(set - 1).gone;
        return there ? sets.get(set - 1) : null;
    }

    private int setNamed(int name) {
        for (int i = 0; i < sets.size(); i++) {
            if (!sets.get(i).gone && sets.get(i).name == name) {
                return i + 1;
            }
        }
        return 0;
    }

    private static boolean isName(int name) {
        return name >= 0 && name <= 99;
    }

    private static boolean isNumber(int number) {
        return number >= 1 && number <= 9999;
    }

    private static boolean isSign(int c) {
        return c >= 32 && c <= 126;
    }
}
