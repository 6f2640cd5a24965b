import java.util.Random;

/** Made-up runs of calls, the same in every test run, on LazyKrivine and on Reference. */
public final class ReferenceTest {
    private static final int RUNS = 20000;
    private static final int[] ODD_INTS = {
        Integer.MIN_VALUE, Integer.MIN_VALUE + 1, -241, -33, -2, -1, 0, 1, 2, 7, 8, 15, 16, 31, 32, 33, 239, 240,
        241, 65536, Integer.MAX_VALUE - 1, Integer.MAX_VALUE};
    // Binders and applications stand more often than the rest, so that runs go deep.
    private static final int[] KINDS = {0, 0, 0, 1, 1, 1, 1, 2, 2, 2, 2, 3, 3, 4, 4, 4, 4, 4, 5, 5, 6, 7, 8, 9, 10, 11};

    private final Random random;
    private final LazyKrivine x;
    private final Reference y;
    private final String name;
    // How often start, supply and demand ended with each outcome; the last column counts refusals.
    private static final int[][] ENDS = new int[3][9];

    private ReferenceTest(int seed) {
        random = new Random(seed);
        int cells = random.nextBoolean() ? 32 : oddInt();
        int limit = random.nextBoolean() ? 240 : random.nextInt(300);
        name = "run " + seed;
        x = new LazyKrivine(cells, limit);
        y = new Reference(cells, limit);
    }

    public static void main(String[] args) {
        for (int seed = 0; seed < RUNS; seed++) {
            new ReferenceTest(seed).run();
        }
        String[] calls = {"start", "supply", "demand"};
        for (int call = 0; call < 3; call++) {
            for (int end = LazyKrivine.INTEGER; end <= 8; end++) {
                Checks.due(calls[call] + " was seen to end with " + end, ENDS[call][end] > 0 ? 1 : 0, 1);
            }
        }
        Checks.finish();
    }

    private void run() {
        int first = 4 + random.nextInt(28);
        for (int call = 0; call < first; call++) {
            addOne();
        }
        for (int call = 0; call < 40; call++) {
            callOne();
            compare();
        }
        if (random.nextInt(10) == 0) {
            x.clear();
            y.clear();
            compare();
        }
    }

    private int oddInt() {
        return ODD_INTS[random.nextInt(ODD_INTS.length)];
    }

    private int someNode() {
        int size = x.size();
        if (size == 0 || random.nextInt(12) == 0) {
            return oddInt();
        }
        // Mostly young nodes, since these hold the larger programs.
        return random.nextBoolean() ? random.nextInt(size) : size - 1 - random.nextInt(Math.min(4, size));
    }

    private void addOne() {
        int kind = random.nextInt(30) == 0 ? oddInt() : KINDS[random.nextInt(KINDS.length)];
        int a = someNode();
        if (kind == LazyKrivine.LITERAL) {
            a = random.nextBoolean() ? random.nextInt(5) - 1 : oddInt();
        } else if (kind == LazyKrivine.VARIABLE && random.nextInt(12) != 0) {
            a = random.nextInt(3);
        }
        int b = someNode();
        int c = someNode();
        String call = name + " add(" + kind + ", " + a + ", " + b + ", " + c + ")";
        Checks.due(call, x.add(kind, a, b, c), y.add(kind, a, b, c));
    }

    private void callOne() {
        int choice = random.nextInt(10);
        if (choice == 0) {
            addOne();
        } else if (choice <= 3 || x.outcome() != LazyKrivine.FUNCTION && random.nextInt(8) != 0) {
            int node = someNode();
            int allowance = random.nextInt(3) == 0 ? random.nextInt(20) : random.nextBoolean() ? 240 : oddInt();
            ended(0, "start(" + node + ", " + allowance + ")", x.start(node, allowance), y.start(node, allowance));
        } else if (choice <= 6) {
            int node = someNode();
            ended(1, "supply(" + node + ")", x.supply(node), y.supply(node));
        } else {
            int index = random.nextInt(4) == 0 ? oddInt() : random.nextInt(3);
            ended(2, "demand(" + index + ")", x.demand(index), y.demand(index));
        }
    }

    private void ended(int call, String what, int got, int want) {
        Checks.due(name + " " + what, got, want);
        ENDS[call][want < 0 ? 8 : want]++;
    }

    private void compare() {
        Checks.due(name + " outcome()", x.outcome(), y.outcome);
        Checks.due(name + " result()", x.result(), y.result);
        Checks.due(name + " charge()", x.charge(), y.charge);
        Checks.due(name + " allowance()", x.allowance(), y.allowance);
        Checks.due(name + " size()", x.size(), y.size());
        for (int index = -1; index <= 32; index++) {
            Checks.due(name + " captured(" + index + ")", x.captured(index), y.captured(index));
        }
        int node = random.nextInt(34) - 1;
        Checks.due(name + " kind(" + node + ")", x.kind(node), y.kind(node));
        int which = random.nextInt(5) - 1;
        Checks.due(name + " part(" + node + ", " + which + ")", x.part(node, which), y.part(node, which));
    }
}
