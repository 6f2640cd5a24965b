import java.util.Arrays;

/**
 * Every program of up to four nodes over a few kinds and parts: its last node is started with small and with
 * sufficient allowances, and what it holds is gone on with in every way twice.
 */
public final class SmallProgramsTest {
    private static final int MOST_NODES = 4;
    private static final int[] ALLOWANCES = {1, 2, 3, 4, 5, 7, 10, 16};
    private static final int[] INTEGERS = {0, 2};
    private static final int INDICES = 2;
    // One operator that can fault and one that can't stand for all six.
    private static final int[] INNER_KINDS = {
        LazyKrivine.LAMBDA, LazyKrivine.RECURSIVE, LazyKrivine.APPLY, LazyKrivine.BRANCH, LazyKrivine.SUBTRACT,
        LazyKrivine.QUOTIENT};

    private final int[][] nodes = new int[MOST_NODES][];
    private int programs;

    public static void main(String[] args) {
        // With s nodes before it there are 4 + 2s + 3s^2 + s^3 ways to make a node.
        int[] due = {4, 4 * 10, 4 * 10 * 28, 4 * 10 * 28 * 64};
        for (int count = 1; count <= MOST_NODES; count++) {
            SmallProgramsTest test = new SmallProgramsTest();
            test.make(0, count);
            Checks.due("programs of " + count, test.programs, due[count - 1]);
        }
        Checks.finish();
    }

    private void make(int node, int count) {
        if (node == count) {
            programs++;
            run(count);
            return;
        }
        for (int integer : INTEGERS) {
            makeWith(node, count, LazyKrivine.LITERAL, integer, 0, 0);
        }
        for (int index = 0; index < INDICES; index++) {
            makeWith(node, count, LazyKrivine.VARIABLE, index, 0, 0);
        }
        for (int kind : INNER_KINDS) {
            makeOverChildren(node, count, kind);
        }
    }

    private void makeOverChildren(int node, int count, int kind) {
        int seconds = kind == LazyKrivine.LAMBDA || kind == LazyKrivine.RECURSIVE ? 1 : node;
        int thirds = kind == LazyKrivine.BRANCH ? node : 1;
        for (int a = 0; a < node; a++) {
            for (int b = 0; b < seconds; b++) {
                for (int c = 0; c < thirds; c++) {
                    makeWith(node, count, kind, a, b, c);
                }
            }
        }
    }

    private void makeWith(int node, int count, int kind, int a, int b, int c) {
        nodes[node] = new int[] {kind, a, b, c};
        make(node + 1, count);
    }

    private String name(int count) {
        StringBuilder name = new StringBuilder("program");
        for (int node = 0; node < count; node++) {
            name.append(' ').append(Arrays.toString(nodes[node]));
        }
        return name.toString();
    }

    private void run(int count) {
        Pair pair = new Pair(name(count), 8, 16);
        for (int node = 0; node < count; node++) {
            pair.add(nodes[node][0], nodes[node][1], nodes[node][2], nodes[node][3]);
        }
        int last = count - 1;
        for (int allowance : ALLOWANCES) {
            if (pair.start(last, allowance) == LazyKrivine.FUNCTION) {
                goOnTwice(pair, last, allowance, count);
            }
        }
    }

    private static void goOnTwice(Pair pair, int last, int allowance, int count) {
        int ways = count + INDICES;
        for (int first = 0; first < ways; first++) {
            for (int second = 0; second < ways; second++) {
                pair.start(last, allowance);
                goOn(pair, first, count);
                goOn(pair, second, count);
            }
        }
    }

    private static void goOn(Pair pair, int way, int count) {
        if (way < count) {
            pair.supply(way);
        } else {
            pair.demand(way - count);
        }
    }
}
