import java.util.Random;

/** Made-up runs of calls, the same in every test run, on LazyKrivine and on Reference. */
public final class ReferenceTest {
    private static final int RUNS = 20000;
    private static final int[] ODD_INTS = {
        Integer.MIN_VALUE, Integer.MIN_VALUE + 1, -241, -33, -2, -1, 0, 1, 2, 7, 8, 15, 16, 31, 32, 33, 239, 240,
        241, 65536, Integer.MAX_VALUE - 1, Integer.MAX_VALUE};
    // Binders and applications stand more often than the rest, so that runs go deep.
    private static final int[] KINDS = {0, 0, 0, 1, 1, 1, 1, 2, 2, 2, 2, 3, 3, 4, 4, 4, 4, 4, 5, 5, 6, 7, 8, 9, 10, 11};

    private final Random random;
    private final Pair pair;
    private final LazyKrivine x;
    // How often start, supply and demand ended with each outcome; the last column counts refusals.
    private static final int[][] ENDS = new int[3][9];

    private ReferenceTest(int seed) {
        random = new Random(seed);
        int cells = random.nextBoolean() ? 32 : oddInt();
        int limit = random.nextBoolean() ? 240 : random.nextInt(300);
        pair = new Pair("run " + seed, cells, limit);
        x = pair.x;
    }

    public static void main(String[] args) {
        for (int seed = 0; seed < RUNS; seed++) {
            new ReferenceTest(seed).run();
        }
        String[] calls = {"start", "supply", "demand"};
        for (int call = 0; call < 3; call++) {
            for (int end = LazyKrivine.INTEGER; end <= 8; end++) {
                Checks.due(calls[call] + " was seen to end with " + end, ENDS[call][end] > 0 ? 1 : 0, 1);
            }
        }
        Checks.finish();
    }

    private void run() {
        int first = 4 + random.nextInt(28);
        for (int call = 0; call < first; call++) {
            addOne();
        }
        for (int call = 0; call < 40; call++) {
            callOne();
            pair.compareNode(random.nextInt(34) - 1, random.nextInt(5) - 1);
        }
        if (random.nextInt(10) == 0) {
            pair.clear();
            pair.compareNode(0, 0);
        }
    }

    private int oddInt() {
        return ODD_INTS[random.nextInt(ODD_INTS.length)];
    }

    private int someNode() {
        int size = x.size();
        if (size == 0 || random.nextInt(12) == 0) {
            return oddInt();
        }
        // Mostly young nodes, since these hold the larger programs.
        return random.nextBoolean() ? random.nextInt(size) : size - 1 - random.nextInt(Math.min(4, size));
    }

    private void addOne() {
        int kind = random.nextInt(30) == 0 ? oddInt() : KINDS[random.nextInt(KINDS.length)];
        int a = someNode();
        if (kind == LazyKrivine.LITERAL) {
            a = random.nextBoolean() ? random.nextInt(5) - 1 : oddInt();
        } else if (kind == LazyKrivine.VARIABLE && random.nextInt(12) != 0) {
            a = random.nextInt(3);
        }
        int b = someNode();
        int c = someNode();
        pair.add(kind, a, b, c);
    }

    private void callOne() {
        int choice = random.nextInt(10);
        if (choice == 0) {
            addOne();
        } else if (choice <= 3 || x.outcome() != LazyKrivine.FUNCTION && random.nextInt(8) != 0) {
            int node = someNode();
            int allowance = random.nextInt(3) == 0 ? random.nextInt(20) : random.nextBoolean() ? 240 : oddInt();
            ended(0, pair.start(node, allowance));
        } else if (choice <= 6) {
            ended(1, pair.supply(someNode()));
        } else {
            int index = random.nextInt(4) == 0 ? oddInt() : random.nextInt(3);
            ended(2, pair.demand(index));
        }
    }

    private static void ended(int call, int answer) {
        ENDS[call][answer < 0 ? 8 : answer]++;
    }
}
