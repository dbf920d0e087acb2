/**
 * Utilities of a house: members of libraries, sets of records, and the codes of the acts on them.
 * The document's promises are told by their numbers at the methods of the face.
 */
public final class LibraryTools {
    public static final int NONE = -1;

    private static final int NO_SUCH = -2;
    private static final int OUTSIDE = -4;
    private static final int NAME_IS_TAKEN = -5;
    private static final int NO_MEMBER_TO_UPDATE = -100;

    private static final int DONE = 0;
    private static final int PART = 4;
    private static final int REFUSED = 8;
    private static final int NO_ROOM = 12;

    private static final int MOST_LIBRARIES = 6;
    private static final int MOST_MEMBERS = 80;
    private static final int MOST_LINES = 30;
    private static final int MOST_SIGNS = 10;
    private static final int MOST_CHANGES = 20;
    private static final int MOST_SETS = 20;
    private static final int MOST_RECORDS = 60;
    private static final int MOST_AHEAD = 9;
    private static final int NAMES = 100;
    private static final int LAST_NUMBER = 9999;
    private static final int FIRST_SIGN = 32;
    private static final int LAST_SIGN = 126;

    private static final int ONLY_FIRST = 1;
    private static final int ONLY_SECOND = 2;
    private static final int BOTH = 3;

    private static final int EXPORT_MARK = 69;
    private static final int NAME_PLACE = 1;
    private static final int GUARD_PLACE = 2;
    private static final int LENGTH_PLACE = 3;
    private static final int HEAD_OCTETS = 4;
    private static final int WORD_OCTETS = 4;

    private final Libraries libraries;
    private final RecordSets recordSets;
    private final ChangeText changeText;
    private final Comparison comparison;
    private final Octets exported;
    private final Octets arriving;
    private final Step current;

    /** Promise 1. */
    public LibraryTools() {
        libraries = new Libraries();
        recordSets = new RecordSets();
        changeText = new ChangeText();
        comparison = new Comparison();
        exported = new Octets();
        arriving = new Octets();
        current = new Step();
    }

    /** Promise 2. */
    public int library(boolean replaces) {
        return libraries.addLibrary(replaces);
    }

    /** Promise 3. */
    public int member(int library, int name) {
        if (!libraries.hasLibrary(library)) {
            return NO_SUCH;
        }
        if (!isName(name)) {
            return OUTSIDE;
        }
        if (libraries.numberOf(library, name) != 0) {
            return NAME_IS_TAKEN;
        }
        return libraries.addMember(library, name);
    }

    /** Promise 4. */
    public void line(int member, int number, int c) {
        Lines lines = libraries.linesOf(member);
        if (lines != null && isLineNumber(number) && isSign(c)) {
            lines.addSignTo(number, c);
        }
    }

    /** Promise 5. */
    public int copy(int from, int to, int name, int as) {
        int code = libraries.copyCode(from, to, name, as);
        if (current.carriesOut(code)) {
            libraries.copyMembers(from, to, name, as);
        }
        return code;
    }

    /** Promise 6. */
    public int move(int from, int to, int name, int as) {
        int code = libraries.moveCode(from, to, name, as);
        // Behind code 4 the member was left out, so it stays where it is.
        if (current.carriesOut(code) && code == DONE) {
            libraries.moveMember(from, to, name, as);
        }
        return code;
    }

    /** Promise 7. */
    public int compare(int a, int b) {
        Lines first = libraries.linesOf(a);
        Lines second = libraries.linesOf(b);
        if (first == null || second == null) {
            return NO_SUCH;
        }
        comparison.run(first, second);
        return comparison.size();
    }

    /** Promise 8. */
    public int differ(int i, int what) {
        return comparison.tell(i, what);
    }

    /** Promise 9. */
    public int ahead(int n) {
        if (n < 0 || n > MOST_AHEAD) {
            return OUTSIDE;
        }
        return comparison.exchangeLookAhead(n);
    }

    /** Promise 10. */
    public void change(int number, int c) {
        if (!isLineNumber(number)) {
            return;
        }
        if (c == 0) {
            changeText.addDeletion(number);
        } else if (isSign(c)) {
            changeText.addSign(number, c);
        }
    }

    /** Promise 11. */
    public int update(int member) {
        Lines lines = libraries.linesOf(member);
        if (lines == null) {
            return NO_MEMBER_TO_UPDATE;
        }
        int refusing = changeText.refusingChange(lines);
        if (refusing == 0) {
            changeText.applyTo(lines);
        }
        changeText.clear();
        return refusing == 0 ? lines.size() : -refusing;
    }

    /** Promise 12. */
    public int define(int name, boolean guarded) {
        if (!isName(name)) {
            return OUTSIDE;
        }
        if (recordSets.withName(name) != null) {
            return NAME_IS_TAKEN;
        }
        return recordSets.add(name, guarded);
    }

    /** Promise 13. */
    public int record(int set, int v) {
        RecordSet found = recordSets.at(set);
        return found == null ? NO_SUCH : found.add(v);
    }

    /** Promise 14. */
    public int delete(int set) {
        int code = recordSets.deleteCode(set);
        if (current.carriesOut(code)) {
            recordSets.drop(set);
        }
        return code;
    }

    /** Promise 15. */
    public int alter(int set, int name) {
        int code = recordSets.alterCode(set, name);
        RecordSet found = recordSets.at(set);
        if (current.carriesOut(code) && found != null) {
            found.rename(name);
        }
        return code;
    }

    /** Promise 16. */
    public int repro(int from, int to) {
        int code = recordSets.reproCode(from, to);
        RecordSet source = recordSets.at(from);
        RecordSet target = recordSets.at(to);
        // Behind code 4 there was nothing to do: what lies behind the target's END MARK stays.
        if (current.carriesOut(code) && code == DONE && source != null && target != null) {
            target.appendCounting(source);
        }
        return code;
    }

    /** Promise 17. */
    public int generate(int set, int n, int v, int step) {
        int code = recordSets.generateCode(set, n);
        RecordSet found = recordSets.at(set);
        if (current.carriesOut(code) && found != null) {
            found.appendSeries(n, v, step);
        }
        return code;
    }

    /** Promise 18. */
    public int verify(int set) {
        int code = recordSets.verifyCode(set);
        RecordSet found = recordSets.at(set);
        if (current.carriesOut(code) && found != null) {
            found.countAll();
        }
        return code;
    }

    /** Promise 19. */
    public int export0(int set) {
        RecordSet found = recordSets.at(set);
        if (found == null) {
            return NO_SUCH;
        }
        found.writeTo(exported);
        return exported.size();
    }

    /** Promise 20. */
    public byte octet(int i) throws ArrayIndexOutOfBoundsException {
        if (!exported.has(i)) {
            throw new ArrayIndexOutOfBoundsException();
        }
        return exported.signedAt(i);
    }

    /** Promise 21. */
    public int import0(byte b) {
        int value = b & 255;
        if (!fitsArriving(value)) {
            arriving.clear();
            return NONE;
        }
        arriving.append(value);
        if (!isArrivingWhole()) {
            return 0;
        }
        int made = recordSets.takeOver(arriving);
        arriving.clear();
        return made;
    }

    /** Promise 22. */
    public int dump(int i, int k) {
        return Dump.signAt(exported, i, k);
    }

    /** Promise 23. */
    public int dry(boolean on) {
        return current.turnDry(on);
    }

    /** Promise 24. */
    public int greatest() {
        return current.greatestCode();
    }

    /** Promise 25. */
    public int step() {
        return current.beginAnew();
    }

    /** Promise 26. */
    public int find(int library, int name) {
        return libraries.hasLibrary(library) ? libraries.numberOf(library, name) : NO_SUCH;
    }

    /** Promise 27. */
    public int letter(int member, int i, int k) {
        Lines lines = libraries.linesOf(member);
        if (lines == null || !lines.has(i)) {
            return NONE;
        }
        return k == -1 ? lines.numberAt(i) : lines.signAt(i, k);
    }

    /** Promise 28. */
    public int set(int set, int what) {
        RecordSet found = recordSets.at(set);
        return found == null ? NONE : found.tell(what);
    }

    /** Promise 29. */
    public int count(int what) {
        switch (what) {
            case 0:
                return libraries.librariesMade();
            case 1:
                return libraries.membersMade();
            case 2:
                return recordSets.setsMade();
            case 3:
                return changeText.size();
            case 4:
                return comparison.size();
            case 5:
                return arriving.size();
            default:
                return NONE;
        }
    }

    private boolean fitsArriving(int value) {
        switch (arriving.size()) {
            case 0:
                return value == EXPORT_MARK;
            case NAME_PLACE:
                return isName(value) && recordSets.canTakeOver(value);
            case GUARD_PLACE:
                return value <= 1;
            case LENGTH_PLACE:
                return value <= MOST_RECORDS;
            default:
                return true;
        }
    }

    private boolean isArrivingWhole() {
        int size = arriving.size();
        return size >= HEAD_OCTETS
            && size >= HEAD_OCTETS + WORD_OCTETS * arriving.valueAt(LENGTH_PLACE);
    }

    private static boolean isName(int name) {
        return name >= 0 && name < NAMES;
    }

    private static boolean isLineNumber(int number) {
        return number >= 1 && number <= LAST_NUMBER;
    }

    private static boolean isSign(int c) {
        return c >= FIRST_SIGN && c <= LAST_SIGN;
    }

    /** The libraries with their members; a member that is gone leaves an empty place behind. */
    private static final class Libraries {
        private final boolean[] replacing = new boolean[MOST_LIBRARIES];
        private final Lines[] members = new Lines[MOST_MEMBERS];
        /** The member's number by library and name, 0 without: a search through all would be dear. */
        private final int[] numbers = new int[MOST_LIBRARIES * NAMES];
        private int libraryCount;
        private int memberCount;

        int librariesMade() {
            return libraryCount;
        }

        int membersMade() {
            return memberCount;
        }

        int addLibrary(boolean replaces) {
            if (libraryCount >= MOST_LIBRARIES) {
                return NONE;
            }
            replacing[libraryCount] = replaces;
            libraryCount++;
            return libraryCount;
        }

        boolean hasLibrary(int library) {
            return library >= 1 && library <= libraryCount;
        }

        /** The member of a name, 0 without. */
        int numberOf(int library, int name) {
            return hasLibrary(library) && isName(name) ? numbers[placeOf(library, name)] : 0;
        }

        /** A new member, where the library is there and the name is free; NONE without room. */
        int addMember(int library, int name) {
            if (memberCount >= MOST_MEMBERS || !hasLibrary(library) || !isName(name)) {
                return NONE;
            }
            members[memberCount] = new Lines();
            memberCount++;
            numbers[placeOf(library, name)] = memberCount;
            return memberCount;
        }

        /** A member's lines; null if there is no such member, or it is gone. */
        Lines linesOf(int member) {
            return member >= 1 && member <= memberCount ? members[member - 1] : null;
        }

        int copyCode(int from, int to, int name, int as) {
            if (!hasLibrary(from) || !hasLibrary(to)) {
                return NO_SUCH;
            }
            if (!isNameOrNone(name) || !isNameOrNone(as)) {
                return OUTSIDE;
            }
            return copyCodeOfNames(from, to, name, as);
        }

        int moveCode(int from, int to, int name, int as) {
            if (hasLibrary(from) && hasLibrary(to) && name == NONE) {
                return OUTSIDE;
            }
            return copyCode(from, to, name, as);
        }

        /** Copies what copyCode() found to be there, and room for. */
        void copyMembers(int from, int to, int name, int as) {
            // Of all with a new name there is only one; should its copy come up in this
            // loop too, it would be copied onto itself, which changes nothing.
            int last = lastName(name);
            for (int own = firstName(name); own <= last; own++) {
                copyMember(from, own, to, as == NONE ? own : as);
            }
        }

        void moveMember(int from, int to, int name, int as) {
            int target = as == NONE ? name : as;
            if (from == to && name == target) {
                return;
            }
            copyMember(from, name, to, target);
            dropMember(from, name);
        }

        private int copyCodeOfNames(int from, int to, int name, int as) {
            int sources = 0;
            int added = 0;
            int leftOut = 0;
            int last = lastName(name);
            for (int own = firstName(name); own <= last; own++) {
                int source = numberOf(from, own);
                if (source == 0) {
                    continue;
                }
                int target = numberOf(to, as == NONE ? own : as);
                sources++;
                if (target == 0) {
                    added++;
                } else if (target != source && !isReplacing(to)) {
                    leftOut++;
                }
            }
            if (sources == 0 || as != NONE && sources > 1) {
                return REFUSED;
            }
            if (memberCount + added > MOST_MEMBERS) {
                return NO_ROOM;
            }
            return leftOut > 0 ? PART : DONE;
        }

        private void copyMember(int from, int name, int to, int as) {
            int source = numberOf(from, name);
            int target = numberOf(to, as);
            if (source == 0 || source == target || target != 0 && !isReplacing(to)) {
                return;
            }
            Lines old = linesOf(source);
            Lines fresh = linesOf(target == 0 ? addMember(to, as) : target);
            if (old != null && fresh != null) {
                fresh.takeAll(old);
            }
        }

        private void dropMember(int library, int name) {
            int number = numberOf(library, name);
            if (number >= 1 && number <= memberCount) {
                members[number - 1] = null;
                numbers[placeOf(library, name)] = 0;
            }
        }

        private boolean isReplacing(int library) {
            return hasLibrary(library) && replacing[library - 1];
        }

        private static int placeOf(int library, int name) {
            return (library - 1) * NAMES + name;
        }

        private static boolean isNameOrNone(int name) {
            return name == NONE || isName(name);
        }

        private static int firstName(int name) {
            return name == NONE ? 0 : name;
        }

        private static int lastName(int name) {
            return name == NONE ? NAMES - 1 : name;
        }
    }

    /** Numbered lines of signs: a member's, or those of the change text. */
    private static final class Lines {
        private final int[] numbers = new int[MOST_LINES];
        private final int[] lengths = new int[MOST_LINES];
        private final byte[] signs = new byte[MOST_LINES * MOST_SIGNS];
        private int size;

        int size() {
            return size;
        }

        void clear() {
            size = 0;
        }

        boolean has(int i) {
            return i >= 0 && i < size;
        }

        /** 0 without. */
        int numberAt(int i) {
            return has(i) ? numbers[i] : 0;
        }

        /** 0 without. */
        int lengthAt(int i) {
            return has(i) ? lengths[i] : 0;
        }

        /** NONE without. */
        int signAt(int i, int k) {
            return k >= 0 && k < lengthAt(i) ? signs[i * MOST_SIGNS + k] : NONE;
        }

        boolean hasNumber(int number) {
            return numberAt(placeFor(number)) == number;
        }

        /** False where one of them has no such line. */
        boolean isAlike(int i, Lines other, int j) {
            if (!has(i) || !other.has(j) || lengths[i] != other.lengths[j]) {
                return false;
            }
            int here = i * MOST_SIGNS;
            int there = j * MOST_SIGNS;
            for (int k = 0; k < lengths[i]; k++) {
                if (signs[here + k] != other.signs[there + k]) {
                    return false;
                }
            }
            return true;
        }

        /** A sign more of the line of a number, which is made if there is room for it. */
        void addSignTo(int number, int c) {
            int i = placeFor(number);
            if (numberAt(i) != number && !openAt(i, number)) {
                return;
            }
            addSignAt(i, c);
        }

        void addSignAt(int i, int c) {
            if (has(i) && lengths[i] < MOST_SIGNS) {
                signs[i * MOST_SIGNS + lengths[i]] = (byte) c;
                lengths[i]++;
            }
        }

        /** A new line without signs behind all others; false without room. */
        boolean openAtEnd(int number) {
            return openAt(size, number);
        }

        /** Puts another's line under its number, in the place of an older one. */
        void put(Lines other, int j) {
            if (!other.has(j)) {
                return;
            }
            int number = other.numberAt(j);
            int i = placeFor(number);
            if (numberAt(i) != number && !openAt(i, number)) {
                return;
            }
            int length = other.lengthAt(j);
            System.arraycopy(other.signs, j * MOST_SIGNS, signs, i * MOST_SIGNS, length);
            lengths[i] = length;
        }

        void removeNumber(int number) {
            int i = placeFor(number);
            if (numberAt(i) == number) {
                shift(i + 1, i);
                size--;
            }
        }

        void takeAll(Lines other) {
            System.arraycopy(other.numbers, 0, numbers, 0, other.size);
            System.arraycopy(other.lengths, 0, lengths, 0, other.size);
            System.arraycopy(other.signs, 0, signs, 0, other.size * MOST_SIGNS);
            size = other.size;
        }

        /** Where the line of a number is, or would be: the numbers of a member's lines rise. */
        private int placeFor(int number) {
            int i = 0;
            while (i < size && numbers[i] < number) {
                i++;
            }
            return i;
        }

        private boolean openAt(int i, int number) {
            if (size >= MOST_LINES || i < 0 || i > size) {
                return false;
            }
            shift(i, i + 1);
            numbers[i] = number;
            lengths[i] = 0;
            size++;
            return true;
        }

        /** Moves all lines from one place on, to another place that is at most one away. */
        private void shift(int from, int to) {
            int moved = size - from;
            if (moved > 0) {
                System.arraycopy(numbers, from, numbers, to, moved);
                System.arraycopy(lengths, from, lengths, to, moved);
                System.arraycopy(signs, from * MOST_SIGNS, signs, to * MOST_SIGNS, moved * MOST_SIGNS);
            }
        }
    }

    /** The differences of the latest comparison, and the look-ahead of the next one. */
    private static final class Comparison {
        private final int[] kinds = new int[2 * MOST_LINES];
        private final int[] firsts = new int[2 * MOST_LINES];
        private final int[] seconds = new int[2 * MOST_LINES];
        private int size;
        private int lookAhead = 3;
        /** How many of the first one's lines the latest look ahead leaves, and of the second one's. */
        private int leftOfFirst;
        private int leftOfSecond;

        int size() {
            return size;
        }

        int exchangeLookAhead(int n) {
            int before = lookAhead;
            lookAhead = n;
            return before;
        }

        int tell(int i, int what) {
            if (i < 0 || i >= size) {
                return NONE;
            }
            switch (what) {
                case 0:
                    return kinds[i];
                case 1:
                    return firsts[i];
                case 2:
                    return seconds[i];
                default:
                    return NONE;
            }
        }

        void run(Lines first, Lines second) {
            size = 0;
            int i = 0;
            int j = 0;
            // Each round passes a line at least, so there are never more rounds than lines.
            for (int round = 0; round < 2 * MOST_LINES && first.has(i) && second.has(j); round++) {
                if (first.isAlike(i, second, j)) {
                    i++;
                    j++;
                } else if (meetsAhead(first, i, second, j)) {
                    keepLeft(first, i, i + leftOfFirst, ONLY_FIRST);
                    keepLeft(second, j, j + leftOfSecond, ONLY_SECOND);
                    i += leftOfFirst;
                    j += leftOfSecond;
                } else {
                    keep(BOTH, first.numberAt(i), second.numberAt(j));
                    i++;
                    j++;
                }
            }
            keepLeft(first, i, first.size(), ONLY_FIRST);
            keepLeft(second, j, second.size(), ONLY_SECOND);
        }

        /** Looks for the nearest alike lines and keeps how many are left before them. */
        private boolean meetsAhead(Lines first, int i, Lines second, int j) {
            for (int inAll = 1; inAll <= lookAhead; inAll++) {
                for (int left = 0; left <= inAll; left++) {
                    if (first.isAlike(i + left, second, j + inAll - left)) {
                        leftOfFirst = left;
                        leftOfSecond = inAll - left;
                        return true;
                    }
                }
            }
            return false;
        }

        private void keepLeft(Lines lines, int from, int end, int kind) {
            for (int i = from; i < end; i++) {
                int number = lines.numberAt(i);
                keep(kind, kind == ONLY_FIRST ? number : 0, kind == ONLY_SECOND ? number : 0);
            }
        }

        private void keep(int kind, int first, int second) {
            if (size < kinds.length) {
                kinds[size] = kind;
                firsts[size] = first;
                seconds[size] = second;
                size++;
            }
        }
    }

    /** The changes in the order in which they came; one without signs is a deletion. */
    private static final class ChangeText {
        private final Lines changes = new Lines();

        int size() {
            return changes.size();
        }

        void clear() {
            changes.clear();
        }

        void addDeletion(int number) {
            begin(number);
        }

        void addSign(int number, int c) {
            if (takesSignMore(number) || begin(number)) {
                changes.addSignAt(changes.size() - 1, c);
            }
        }

        /** The first change, from 1 on, that refuses all; 0 without. */
        int refusingChange(Lines lines) {
            int size = lines.size();
            int before = 0;
            for (int i = 0; i < changes.size(); i++) {
                int number = changes.numberAt(i);
                // As the numbers rise, no change before this one has touched its line.
                boolean there = lines.hasNumber(number);
                if (isDeletion(i)) {
                    size--;
                } else if (!there) {
                    size++;
                }
                if (number <= before || isDeletion(i) && !there || size > MOST_LINES) {
                    return i + 1;
                }
                before = number;
            }
            return 0;
        }

        void applyTo(Lines lines) {
            for (int i = 0; i < changes.size(); i++) {
                if (isDeletion(i)) {
                    lines.removeNumber(changes.numberAt(i));
                } else {
                    lines.put(changes, i);
                }
            }
        }

        private boolean takesSignMore(int number) {
            int latest = changes.size() - 1;
            int length = changes.lengthAt(latest);
            return changes.numberAt(latest) == number && length > 0 && length < MOST_SIGNS;
        }

        private boolean begin(int number) {
            return changes.size() < MOST_CHANGES && changes.openAtEnd(number);
        }

        private boolean isDeletion(int i) {
            return changes.lengthAt(i) == 0;
        }
    }

    /** The sets; one that is gone leaves an empty place behind. */
    private static final class RecordSets {
        private final RecordSet[] sets = new RecordSet[MOST_SETS];
        private int setCount;

        int setsMade() {
            return setCount;
        }

        /** Null if there is no such set, or it is gone. */
        RecordSet at(int number) {
            return number >= 1 && number <= setCount ? sets[number - 1] : null;
        }

        /** Null without. */
        RecordSet withName(int name) {
            return at(numberOf(name));
        }

        int add(int name, boolean guarded) {
            if (!hasRoom()) {
                return NONE;
            }
            sets[setCount] = new RecordSet(name, guarded);
            setCount++;
            return setCount;
        }

        void drop(int number) {
            if (number >= 1 && number <= setCount) {
                sets[number - 1] = null;
            }
        }

        int deleteCode(int number) {
            RecordSet found = at(number);
            if (found == null) {
                return NO_SUCH;
            }
            return found.isGuarded() ? REFUSED : DONE;
        }

        int alterCode(int number, int name) {
            RecordSet found = at(number);
            if (found == null) {
                return NO_SUCH;
            }
            if (!isName(name)) {
                return OUTSIDE;
            }
            RecordSet holder = withName(name);
            if (holder == null) {
                return DONE;
            }
            return holder == found ? PART : REFUSED;
        }

        int reproCode(int from, int to) {
            RecordSet source = at(from);
            RecordSet target = at(to);
            if (source == null || target == null) {
                return NO_SUCH;
            }
            if (from == to) {
                return REFUSED;
            }
            if (!target.hasRoomFor(source.counting())) {
                return NO_ROOM;
            }
            return source.counting() == 0 ? PART : DONE;
        }

        int generateCode(int number, int n) {
            RecordSet found = at(number);
            if (found == null) {
                return NO_SUCH;
            }
            if (n < 1 || n > MOST_RECORDS) {
                return OUTSIDE;
            }
            return found.hasRoomFor(n) ? DONE : NO_ROOM;
        }

        int verifyCode(int number) {
            RecordSet found = at(number);
            if (found == null) {
                return NO_SUCH;
            }
            return found.countsAll() ? PART : DONE;
        }

        boolean canTakeOver(int name) {
            RecordSet holder = withName(name);
            return holder == null ? hasRoom() : !holder.isGuarded();
        }

        /** The set that a whole import makes or replaces; NONE if it may not any more. */
        int takeOver(Octets octets) {
            int name = octets.valueAt(NAME_PLACE);
            if (!canTakeOver(name)) {
                return NONE;
            }
            int known = numberOf(name);
            int number = known == 0 ? add(name, false) : known;
            RecordSet target = at(number);
            if (target != null) {
                target.readFrom(octets);
            }
            return number;
        }

        private boolean hasRoom() {
            return setCount < MOST_SETS;
        }

        /** 0 without. */
        private int numberOf(int name) {
            for (int i = 0; i < setCount; i++) {
                RecordSet each = sets[i];
                if (each != null && each.hasName(name)) {
                    return i + 1;
                }
            }
            return 0;
        }
    }

    /** The END MARK never lies behind the last record. */
    private static final class RecordSet {
        private final int[] records = new int[MOST_RECORDS];
        private int name;
        private boolean guarded;
        private int size;
        private int endMark;

        RecordSet(int name, boolean guarded) {
            this.name = name;
            this.guarded = guarded;
        }

        boolean hasName(int other) {
            return name == other;
        }

        boolean isGuarded() {
            return guarded;
        }

        int counting() {
            return endMark;
        }

        boolean countsAll() {
            return endMark == size;
        }

        /** What lies behind the END MARK goes when others come, so it takes no room. */
        boolean hasRoomFor(int more) {
            return endMark + more <= MOST_RECORDS;
        }

        int tell(int what) {
            switch (what) {
                case 0:
                    return name;
                case 1:
                    return size;
                case 2:
                    return endMark;
                case 3:
                    return guarded ? 1 : 0;
                case 4:
                    return endMark > 0 ? records[endMark - 1] : 0;
                default:
                    return NONE;
            }
        }

        int add(int v) {
            if (size >= MOST_RECORDS) {
                return NONE;
            }
            records[size] = v;
            size++;
            return size;
        }

        void rename(int newName) {
            name = newName;
        }

        void countAll() {
            endMark = size;
        }

        void appendCounting(RecordSet other) {
            if (hasRoomFor(other.endMark)) {
                System.arraycopy(other.records, 0, records, endMark, other.endMark);
                endMark += other.endMark;
                size = endMark;
            }
        }

        void appendSeries(int n, int v, int step) {
            size = endMark;
            int value = v;
            for (int i = 0; i < n; i++) {
                add(value);
                value += step;
            }
            endMark = size;
        }

        void writeTo(Octets octets) {
            octets.clear();
            octets.append(EXPORT_MARK);
            octets.append(name);
            octets.append(guarded ? 1 : 0);
            octets.append(endMark);
            for (int i = 0; i < endMark; i++) {
                octets.appendWord(records[i]);
            }
        }

        void readFrom(Octets octets) {
            guarded = octets.valueAt(GUARD_PLACE) == 1;
            size = 0;
            int length = octets.valueAt(LENGTH_PLACE);
            for (int i = 0; i < length; i++) {
                add(octets.wordAt(HEAD_OCTETS + WORD_OCTETS * i));
            }
            endMark = size;
        }
    }

    /** The bytes of one export or import. */
    private static final class Octets {
        private final byte[] row = new byte[HEAD_OCTETS + WORD_OCTETS * MOST_RECORDS];
        private int size;

        int size() {
            return size;
        }

        void clear() {
            size = 0;
        }

        boolean has(int i) {
            return i >= 0 && i < size;
        }

        void append(int value) {
            if (size < row.length) {
                row[size] = (byte) value;
                size++;
            }
        }

        void appendWord(int word) {
            append(word >>> 24);
            append(word >>> 16);
            append(word >>> 8);
            append(word);
        }

        /** 0 without. */
        byte signedAt(int i) {
            return has(i) ? row[i] : 0;
        }

        /** 0 .. 255. */
        int valueAt(int i) {
            return signedAt(i) & 255;
        }

        int wordAt(int i) {
            return valueAt(i) << 24 | valueAt(i + 1) << 16 | valueAt(i + 2) << 8 | valueAt(i + 3);
        }
    }

    /** Lines of 27 signs, as "0004: 00 C1 41 07 ..A. .A..": place, bytes, signs, other code. */
    private static final class Dump {
        private static final int WIDTH = 4;
        private static final int COLON = 4;
        private static final int BYTES = 5;
        private static final int SIGNS = 18;
        private static final int OTHERS = 23;
        private static final int END = 27;

        /** NONE without. */
        static int signAt(Octets octets, int i, int k) {
            if (i < 0 || i >= octets.size() / WIDTH || k < 0 || k >= END) {
                return NONE;
            }
            int place = i * WIDTH;
            if (k < COLON) {
                return decimalDigit(place, k);
            }
            if (k == COLON) {
                return ':';
            }
            if (k < SIGNS - 1) {
                return byteColumn(octets, place, k - BYTES);
            }
            if (k == SIGNS - 1 || k == OTHERS - 1) {
                return ' ';
            }
            return k < OTHERS
                ? asSign(octets.valueAt(place + k - SIGNS))
                : inOtherCode(octets.valueAt(place + k - OTHERS));
        }

        private static int decimalDigit(int place, int k) {
            int rest = place;
            for (int behind = k; behind < COLON - 1; behind++) {
                rest /= 10;
            }
            return '0' + rest % 10;
        }

        /** Of each byte there are three columns: a blank, the high digit, the low one. */
        private static int byteColumn(Octets octets, int place, int column) {
            int value = octets.valueAt(place + column / 3);
            switch (column % 3) {
                case 0:
                    return ' ';
                case 1:
                    return hexDigit(value >> 4);
                default:
                    return hexDigit(value & 15);
            }
        }

        private static int hexDigit(int digit) {
            return digit < 10 ? '0' + digit : 'A' + digit - 10;
        }

        private static int asSign(int value) {
            return isSign(value) ? value : '.';
        }

        private static int inOtherCode(int value) {
            if (value >= 193 && value <= 201) {
                return 'A' + value - 193;
            }
            if (value >= 209 && value <= 217) {
                return 'J' + value - 209;
            }
            if (value >= 226 && value <= 233) {
                return 'S' + value - 226;
            }
            if (value >= 240 && value <= 249) {
                return '0' + value - 240;
            }
            return value == 64 ? ' ' : '.';
        }
    }

    /** The greatest code of the step, and whether acts are dry. */
    private static final class Step {
        private int greatestCode;
        private boolean isDry;
        private int dryActs;

        int greatestCode() {
            return greatestCode;
        }

        /** The greatest code of the step that ends. */
        int beginAnew() {
            int before = greatestCode;
            greatestCode = DONE;
            return before;
        }

        int turnDry(boolean on) {
            isDry = on;
            return dryActs;
        }

        /** Keeps an act's code, and tells whether the act may change anything. */
        boolean carriesOut(int code) {
            if (code < DONE) {
                return false;
            }
            greatestCode = Math.max(greatestCode, code);
            if (isDry) {
                dryActs++;
                return false;
            }
            return code == DONE || code == PART;
        }
    }
}
