/** Promises 1 and 3: the constructor and clear(). Above each test stands the sentence that it holds to. */
public final class BeginningTest {
    /** An int, what it counts as for cells, and what it counts as for limit. */
    private static final int[][] CLAMPED = {
        {Checks.MIN, 8, 16}, {Checks.MIN + 1, 8, 16}, {-1, 8, 16}, {0, 8, 16}, {1, 8, 16}, {7, 8, 16}, {8, 8, 16},
        {9, 9, 16}, {15, 15, 16}, {16, 16, 16}, {17, 17, 17}, {31, 31, 31}, {32, 32, 32}, {33, 32, 33},
        {239, 32, 239}, {240, 32, 240}, {241, 32, 240}, {65536, 32, 240}, {Checks.MAX, 32, 240}};

    public static void main(String[] args) {
        anyTwoIntsAreAccepted();
        fewCellsCountAsEight();
        manyCellsCountAsThirtyTwo();
        otherCellsCount();
        lowLimitsCountAsSixteen();
        highLimitsCountAsTwoHundredAndForty();
        otherLimitsCount();
        beginsIdleAndEmpty();
        clearedIsAsNew();
        clearRemovesEveryNode();
        clearTwiceIsAsOnce();
        clearKeepsTheRoom();
        numbersBeginAgainAfterClear();
        partsOfFormerNodesDoNotComeBack();
        Checks.finish();
    }

    /** Fills the object and spends a whole session: it has room for just so much. */
    private static void hasRoomFor(String what, LazyKrivine x, int cells, int limit) {
        int loop = Checks.recursive(x, Checks.variable(x, 0));
        States.fill(x, cells);
        Checks.due(what + " add beyond the cells", Checks.literal(x, 5), LazyKrivine.REFUSED);
        Checks.due(what + " size()", x.size(), cells);
        Checks.ends(what + " a loop", x, x.start(loop, Checks.MAX), LazyKrivine.EXHAUSTED, 0, limit);
        Checks.due(what + " allowance()", x.allowance(), limit);
    }

    private static void made(int cells, int limit, int wantCells, int wantLimit) {
        String what = "promise 1: LazyKrivine(" + cells + ", " + limit + ")";
        hasRoomFor(what, new LazyKrivine(cells, limit), wantCells, wantLimit);
    }

    /** "accepts any two ints" */
    private static void anyTwoIntsAreAccepted() {
        for (int[] cells : CLAMPED) {
            for (int[] limit : CLAMPED) {
                made(cells[0], limit[0], cells[1], limit[2]);
            }
        }
    }

    /** "anything below 8 counts as 8" */
    private static void fewCellsCountAsEight() {
        for (int cells = -40; cells < 8; cells++) {
            made(cells, 100, 8, 100);
        }
        made(Checks.MIN, 100, 8, 100);
    }

    /** "anything above 32 counts as 32" */
    private static void manyCellsCountAsThirtyTwo() {
        for (int cells = 33; cells <= 300; cells++) {
            made(cells, 100, 32, 100);
        }
        made(Checks.MAX, 100, 32, 100);
    }

    /** "`cells` is how many nodes the arena can hold, clamped to 8..32" */
    private static void otherCellsCount() {
        for (int cells = 8; cells <= 32; cells++) {
            made(cells, 100, cells, 100);
        }
    }

    /** "anything below 16 counts as 16" */
    private static void lowLimitsCountAsSixteen() {
        for (int limit = -40; limit < 16; limit++) {
            made(20, limit, 20, 16);
        }
        made(20, Checks.MIN, 20, 16);
    }

    /** "anything above 240 counts as 240" */
    private static void highLimitsCountAsTwoHundredAndForty() {
        for (int limit = 241; limit <= 600; limit++) {
            made(20, limit, 20, 240);
        }
        made(20, Checks.MAX, 20, 240);
    }

    /** "`limit` is the greatest allowance of a session, clamped to 16..240" */
    private static void otherLimitsCount() {
        for (int limit = 16; limit <= 240; limit++) {
            made(20, limit, 20, limit);
        }
    }

    /** "At first there are no nodes; the outcome is `IDLE`; result, charge and allowance are 0; no function is
     * held." */
    private static void beginsIdleAndEmpty() {
        for (int[] cells : CLAMPED) {
            for (int[] limit : CLAMPED) {
                LazyKrivine x = new LazyKrivine(cells[0], limit[0]);
                String what = "promise 1: LazyKrivine(" + cells[0] + ", " + limit[0] + ")";
                Checks.due(what + " size()", x.size(), 0);
                Checks.due(what + " kind(0)", x.kind(0), -1);
                Checks.due(what + " start(0, 9)", x.start(0, 9), LazyKrivine.REFUSED);
                Checks.same(what, Checks.session(x), Checks.session(LazyKrivine.IDLE, 0, 0, 0));
                Checks.literal(x, 3);
                Checks.holdsNothing(what, x);
            }
        }
    }

    private static LazyKrivine cleared(int state) {
        LazyKrivine x = States.make(state);
        x.clear();
        return x;
    }

    /** "everything is as after the constructor: no nodes, outcome `IDLE`, result, charge and allowance 0, .." and
     * "This holds in every state." */
    private static void clearedIsAsNew() {
        for (int state = 0; state < States.COUNT; state++) {
            int made = state;
            String what = "promise 3: clear() when " + States.name(state);
            Twins.alike(what, () -> cleared(made), () -> States.empty(made));
            LazyKrivine x = cleared(state);
            Checks.same(what, Checks.session(x), Checks.session(LazyKrivine.IDLE, 0, 0, 0));
            Checks.due(what + " size()", x.size(), 0);
            Checks.literal(x, 3);
            Checks.holdsNothing(what, x);
        }
    }

    /** "`clear()` removes all nodes" */
    private static void clearRemovesEveryNode() {
        for (int state = 0; state < States.COUNT; state++) {
            LazyKrivine x = cleared(state);
            String what = "promise 3: cleared when " + States.name(state);
            for (int node = 0; node < 32; node++) {
                Checks.due(what + " kind(" + node + ")", x.kind(node), -1);
                Checks.due(what + " part(" + node + ", 0)", x.part(node, 0), 0);
                Checks.due(what + " start(" + node + ", 9)", x.start(node, 9), LazyKrivine.REFUSED);
                Checks.due(what + " add above " + node, Checks.lambda(x, node), LazyKrivine.REFUSED);
            }
        }
    }

    private static void clearTwiceIsAsOnce() {
        for (int state = 0; state < States.COUNT; state++) {
            int made = state;
            Twins.alike("promise 3: clear() twice when " + States.name(state), () -> {
                LazyKrivine x = cleared(made);
                x.clear();
                return x;
            }, () -> cleared(made));
        }
    }

    /** "The clamped cells and limit stay in force." */
    private static void clearKeepsTheRoom() {
        for (int[] row : CLAMPED) {
            LazyKrivine x = new LazyKrivine(row[0], row[0]);
            for (int round = 0; round < 3; round++) {
                hasRoomFor("promise 3: round " + round + " in " + row[0], x, row[1], row[2]);
                x.clear();
            }
        }
    }

    private static void numbersBeginAgainAfterClear() {
        for (int state = 0; state < States.COUNT; state++) {
            LazyKrivine x = cleared(state);
            String what = "promise 3: after clear() when " + States.name(state);
            for (int node = 0; node < 8; node++) {
                Checks.due(what + " add", Checks.literal(x, 60 + node), node);
                Checks.ends(what, x, x.start(node, 5), LazyKrivine.INTEGER, 60 + node, 1);
            }
        }
    }

    private static void partsOfFormerNodesDoNotComeBack() {
        LazyKrivine x = Checks.fresh();
        States.fill(x, 3);
        Checks.branch(x, 1, 2, 1);
        x.clear();
        States.fill(x, 3);
        Checks.lambda(x, 2);
        Checks.due("promise 3: part(3, 1) of a new node", x.part(3, 1), 0);
        Checks.due("promise 3: part(3, 2) of a new node", x.part(3, 2), 0);
    }
}
