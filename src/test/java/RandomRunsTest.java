import java.util.Random;

/**
 * Runs of 512 random calls, wrong ones among them, held against the plain model. The seeds are
 * fixed, so every run of the test is the same. An exception that isn't due ends the test.
 */
public final class RandomRunsTest {
    private static final int RUNS = 3000;
    private static final int CALLS = 512;
    private static final int[] ODD = {Integer.MIN_VALUE, Integer.MAX_VALUE, -1, -2, 0, 100, 127, 10000, 1 << 30};

    private final Checks checks = new Checks("random runs");
    private final int[] weights = new int[28];
    private int weightOfAll;
    private Random random;
    private LibraryTools tools;
    private PlainModel model;
    private int names;
    private int numbers;
    private int signs;
    private int odds;

    public static void main(String[] args) {
        RandomRunsTest test = new RandomRunsTest();
        for (int run = 0; run < RUNS; run++) {
            test.run(run);
        }
        test.checks.end();
    }

    /** Each run has its own mixture of calls and its own spread of arguments. */
    private void run(int seed) {
        random = new Random(seed);
        tools = new LibraryTools();
        model = new PlainModel();
        names = pick(3, 8, 100);
        numbers = pick(4, 12, 40, 9999);
        signs = pick(1, 2, 95);
        odds = pick(20, 100, 1000);
        weightOfAll = 0;
        for (int kind = 0; kind < weights.length; kind++) {
            weights[kind] = random.nextInt(4) == 0 ? random.nextInt(40) : 1 + random.nextInt(4);
            weightOfAll += weights[kind];
        }
        for (int call = 0; call < CALLS; call++) {
            String at = "run " + seed + " call " + call + " ";
            if (random.nextInt(300) == 0) {
                call += bringWhole(at, CALLS - call);
            } else {
                callOne(at, kind());
            }
        }
    }

    private int kind() {
        int left = random.nextInt(weightOfAll);
        int kind = 0;
        while (left >= weights[kind]) {
            left -= weights[kind];
            kind++;
        }
        return kind;
    }

    private int pick(int... values) {
        return values[random.nextInt(values.length)];
    }

    private int upTo(int first, int last) {
        return random.nextInt(odds) == 0 ? pick(ODD) : first + random.nextInt(last - first + 1);
    }

    private int name() {
        return upTo(0, names - 1);
    }

    private int nameOrNone() {
        return random.nextInt(3) == 0 ? -1 : name();
    }

    private int number() {
        return upTo(1, numbers);
    }

    private int sign() {
        return upTo(32, 31 + signs);
    }

    private int aLibrary() {
        return upTo(1, Math.max(1, model.count(0)));
    }

    private int aMember() {
        return upTo(1, Math.max(1, model.count(1)));
    }

    private int aSet() {
        return upTo(1, Math.max(1, model.count(2)));
    }

    /** An import that is right, but for a byte now and then. */
    private int bringWhole(String at, int most) {
        int records = random.nextInt(4);
        int length = Math.min(most, 4 + 4 * records);
        int[] head = {69, random.nextInt(names), random.nextInt(2), records};
        for (int i = 0; i < length; i++) {
            boolean right = i < 4 && random.nextInt(40) != 0;
            byte b = (byte) (right ? head[i] : random.nextInt(256));
            checks.due(at + "import0 " + b, tools.import0(b), model.import0(b));
        }
        return length - 1;
    }

    private int octet(int i) {
        try {
            return tools.octet(i);
        } catch (ArrayIndexOutOfBoundsException e) {
            return 1000;
        }
    }

    private void callOne(String at, int kind) {
        if (kind < 10) {
            callOnMembers(at, kind);
        } else if (kind < 21) {
            callOnSets(at, kind);
        } else {
            callOnAll(at, kind);
        }
    }

    private void callOnMembers(String at, int kind) {
        int a;
        int b;
        int c;
        int d;
        boolean yes = random.nextBoolean();
        switch (kind) {
            case 0 -> checks.due(at + "library", tools.library(yes), model.library(yes));
            case 1 -> {
                a = aLibrary();
                b = name();
                checks.due(at + "member", tools.member(a, b), model.member(a, b));
            }
            case 2 -> {
                a = aMember();
                b = number();
                c = sign();
                tools.line(a, b, c);
                model.line(a, b, c);
            }
            case 3 -> {
                a = aLibrary();
                b = aLibrary();
                c = nameOrNone();
                d = nameOrNone();
                checks.due(at + "copy", tools.copy(a, b, c, d), model.copy(a, b, c, d));
            }
            case 4 -> {
                a = aLibrary();
                b = aLibrary();
                c = random.nextInt(20) == 0 ? -1 : name();
                d = nameOrNone();
                checks.due(at + "move", tools.move(a, b, c, d), model.move(a, b, c, d));
            }
            case 5 -> {
                a = aMember();
                b = aMember();
                checks.due(at + "compare", tools.compare(a, b), model.compare(a, b));
            }
            case 6 -> {
                a = upTo(0, Math.max(1, model.count(4)));
                b = upTo(0, 2);
                checks.due(at + "differ", tools.differ(a, b), model.differ(a, b));
            }
            case 7 -> {
                a = upTo(0, 9);
                checks.due(at + "ahead", tools.ahead(a), model.ahead(a));
            }
            case 8 -> {
                a = number();
                b = random.nextInt(4) == 0 ? 0 : sign();
                tools.change(a, b);
                model.change(a, b);
            }
            default -> {
                a = aMember();
                checks.due(at + "update", tools.update(a), model.update(a));
            }
        }
    }

    private void callOnSets(String at, int kind) {
        int a = aSet();
        int b;
        switch (kind) {
            case 10 -> {
                b = name();
                boolean yes = random.nextInt(4) == 0;
                checks.due(at + "define", tools.define(b, yes), model.define(b, yes));
            }
            case 11 -> {
                b = random.nextInt();
                checks.due(at + "record", tools.record(a, b), model.record(a, b));
            }
            case 12 -> checks.due(at + "delete", tools.delete(a), model.delete(a));
            case 13 -> {
                b = name();
                checks.due(at + "alter", tools.alter(a, b), model.alter(a, b));
            }
            case 14 -> {
                b = aSet();
                checks.due(at + "repro", tools.repro(a, b), model.repro(a, b));
            }
            case 15 -> {
                b = upTo(1, pick(3, 20, 61));
                int v = random.nextInt();
                int step = random.nextInt();
                checks.due(at + "generate", tools.generate(a, b, v, step), model.generate(a, b, v, step));
            }
            case 16 -> checks.due(at + "verify", tools.verify(a), model.verify(a));
            case 17 -> checks.due(at + "export0", tools.export0(a), model.export0(a));
            case 18 -> {
                b = upTo(0, 60);
                checks.due(at + "octet", octet(b), model.octet(b));
            }
            case 19 -> {
                byte each = (byte) pick(69, 0, 1, 2, random.nextInt(256));
                checks.due(at + "import0", tools.import0(each), model.import0(each));
            }
            default -> {
                b = upTo(0, 4);
                checks.due(at + "set", tools.set(a, b), model.set(a, b));
            }
        }
    }

    private void callOnAll(String at, int kind) {
        int a;
        int b;
        int c;
        switch (kind) {
            case 21 -> {
                a = upTo(0, 12);
                b = upTo(0, 27);
                checks.due(at + "dump", tools.dump(a, b), model.dump(a, b));
            }
            case 22 -> {
                boolean yes = random.nextInt(4) == 0;
                checks.due(at + "dry", tools.dry(yes), model.dry(yes));
            }
            case 23 -> checks.due(at + "greatest", tools.greatest(), model.greatest());
            case 24 -> checks.due(at + "step", tools.step(), model.step());
            case 25 -> {
                a = aLibrary();
                b = name();
                checks.due(at + "find", tools.find(a, b), model.find(a, b));
            }
            case 26 -> {
                a = aMember();
                b = upTo(0, pick(2, 30));
                c = upTo(-1, 10);
                checks.due(at + "letter", tools.letter(a, b, c), model.letter(a, b, c));
            }
            default -> {
                a = upTo(0, 5);
                checks.due(at + "count", tools.count(a), model.count(a));
            }
        }
    }
}
