/** Promises 1 to 6: the constructor, making and clearing nodes, and looking at them. */
public final class ArenaTest {
    private static final int[] ODD_INTS = {Integer.MIN_VALUE, -1000, -1, 32, 33, 1000, Integer.MAX_VALUE};

    public static void main(String[] args) {
        cellsAreClamped();
        limitIsClamped();
        beginsIdle();
        wrongKindsAreRefused();
        variableIndexIsLookedAt();
        everyChildMustExist();
        unusedPartsAreKeptAsZero();
        fullArenaRefuses();
        addLeavesTheSession();
        clearMakesAllNew();
        oldPartsDoNotShowAfterClear();
        kindAndPartOfWhatIsNotThere();
        lookingChangesNothing();
        Checks.finish();
    }

    private static void cellsAreClamped() {
        int[][] rows = {
            {Integer.MIN_VALUE, 8}, {-1, 8}, {0, 8}, {7, 8}, {8, 8}, {9, 9}, {31, 31}, {32, 32}, {33, 32},
            {Integer.MAX_VALUE, 32}};
        for (int[] row : rows) {
            LazyKrivine x = new LazyKrivine(row[0], 100);
            fill(x, row[1]);
            Checks.due("promise 1: add beyond cells " + row[0], Checks.literal(x, 5), -1);
            Checks.due("promise 1: size() for cells " + row[0], x.size(), row[1]);
        }
    }

    private static void fill(LazyKrivine x, int count) {
        for (int node = 0; node < count; node++) {
            Checks.due("promise 2: add of node " + node, Checks.literal(x, node), node);
            Checks.due("promise 4: size() after node " + node, x.size(), node + 1);
        }
    }

    private static void limitIsClamped() {
        int[][] rows = {
            {Integer.MIN_VALUE, 16}, {-1, 16}, {0, 16}, {15, 16}, {16, 16}, {17, 17}, {239, 239}, {240, 240},
            {241, 240}, {Integer.MAX_VALUE, 240}};
        for (int[] row : rows) {
            LazyKrivine x = new LazyKrivine(8, row[0]);
            int loop = Checks.recursive(x, Checks.variable(x, 0));
            Checks.due("promise 1: start for limit " + row[0], x.start(loop, Integer.MAX_VALUE), LazyKrivine.EXHAUSTED);
            Checks.due("promise 1: allowance() for limit " + row[0], x.allowance(), row[1]);
            Checks.due("promise 1: charge() for limit " + row[0], x.charge(), row[1]);
        }
    }

    private static void beginsIdle() {
        LazyKrivine x = Checks.fresh();
        Checks.same("promise 1: the beginning", Checks.session(x), Checks.session(LazyKrivine.IDLE, 0, 0, 0));
        Checks.due("promise 1: size()", x.size(), 0);
        Checks.due("promise 1: captured(0)", x.captured(0), -1);
        Checks.due("promise 1: supply(0)", x.supply(0), -1);
        Checks.due("promise 1: demand(0)", x.demand(0), -1);
        Checks.due("promise 1: start(0, 9)", x.start(0, 9), -1);
    }

    private static void refused(LazyKrivine x, int kind, int a, int b, int c) {
        String before = Checks.state(x);
        String call = "promise 2: add(" + kind + ", " + a + ", " + b + ", " + c + ")";
        Checks.due(call, x.add(kind, a, b, c), LazyKrivine.REFUSED);
        Checks.same(call + " changes nothing", Checks.state(x), before);
    }

    private static void wrongKindsAreRefused() {
        LazyKrivine x = Checks.fresh();
        Checks.literal(x, 4);
        for (int kind : new int[] {Integer.MIN_VALUE, -2, -1, 12, 13, Integer.MAX_VALUE}) {
            refused(x, kind, 0, 0, 0);
        }
    }

    private static void variableIndexIsLookedAt() {
        LazyKrivine x = Checks.fresh();
        for (int index : ODD_INTS) {
            refused(x, LazyKrivine.VARIABLE, index, 0, 0);
        }
        Checks.due("promise 2: index 0", Checks.variable(x, 0), 0);
        Checks.due("promise 2: index 31", Checks.variable(x, 31), 1);
        Checks.due("promise 6: index 31", x.part(1, 0), 31);
    }

    private static void everyChildMustExist() {
        for (int kind = LazyKrivine.LAMBDA; kind <= LazyKrivine.EQUAL; kind++) {
            LazyKrivine x = Checks.fresh();
            refused(x, kind, 0, 0, 0);
            Checks.literal(x, 1);
            Checks.literal(x, 2);
            for (int absent : new int[] {Integer.MIN_VALUE, -1, 2, 3, 31, 32, Integer.MAX_VALUE}) {
                refused(x, kind, absent, 1, 1);
                if (children(kind) >= 2) {
                    refused(x, kind, 1, absent, 1);
                }
                if (children(kind) >= 3) {
                    refused(x, kind, 1, 1, absent);
                }
            }
            Checks.due("promise 2: kind " + kind, x.add(kind, 1, 0, 1), 2);
            Checks.due("promise 2: kind " + kind + " with one child thrice", x.add(kind, 2, 2, 2), 3);
        }
    }

    private static int children(int kind) {
        if (kind < LazyKrivine.LAMBDA) {
            return 0;
        }
        if (kind == LazyKrivine.BRANCH) {
            return 3;
        }
        return kind < LazyKrivine.APPLY ? 1 : 2;
    }

    private static void unusedPartsAreKeptAsZero() {
        for (int kind = LazyKrivine.LITERAL; kind <= LazyKrivine.EQUAL; kind++) {
            for (int odd : ODD_INTS) {
                LazyKrivine x = Checks.fresh();
                Checks.literal(x, 1);
                Checks.literal(x, 2);
                Checks.literal(x, 3);
                boolean usesB = children(kind) >= 2;
                boolean usesC = children(kind) >= 3;
                int a = kind == LazyKrivine.LITERAL ? odd : 2;
                String call = "promise 2: kind " + kind + " beside " + odd;
                Checks.due(call, x.add(kind, a, usesB ? 1 : odd, usesC ? 2 : odd), 3);
                Checks.due(call + " kind(3)", x.kind(3), kind);
                Checks.due(call + " part(3, 0)", x.part(3, 0), a);
                Checks.due(call + " part(3, 1)", x.part(3, 1), usesB ? 1 : 0);
                Checks.due(call + " part(3, 2)", x.part(3, 2), usesC ? 2 : 0);
            }
        }
    }

    private static void fullArenaRefuses() {
        LazyKrivine x = new LazyKrivine(8, 16);
        fill(x, 8);
        for (int kind = LazyKrivine.LITERAL; kind <= LazyKrivine.EQUAL; kind++) {
            refused(x, kind, 0, 0, 0);
        }
    }

    private static void addLeavesTheSession() {
        for (int outcome = LazyKrivine.IDLE; outcome <= LazyKrivine.ZERO_DIVISOR; outcome++) {
            LazyKrivine x = Outcomes.reached(outcome);
            String before = Checks.session(x);
            int captured = x.captured(0);
            int size = x.size();
            String what = "promise 2: add in outcome " + outcome;
            Checks.due(what, Checks.literal(x, 77), size);
            Checks.same(what, Checks.session(x), before);
            Checks.due(what + " captured(0)", x.captured(0), captured);
        }
    }

    private static void clearMakesAllNew() {
        for (int outcome = LazyKrivine.IDLE; outcome <= LazyKrivine.ZERO_DIVISOR; outcome++) {
            LazyKrivine x = Outcomes.reached(outcome);
            x.clear();
            String what = "promise 3: clear() in outcome " + outcome;
            Checks.same(what, Checks.state(x), Checks.state(Checks.fresh()));
            Checks.due(what + " start(0, 5)", x.start(0, 5), -1);
            Checks.literal(x, 1);
            Checks.due(what + " supply(0)", x.supply(0), -1);
            Checks.due(what + " demand(0)", x.demand(0), -1);
        }
        LazyKrivine x = new LazyKrivine(9, 20);
        for (int round = 0; round < 3; round++) {
            fill(x, 9);
            refused(x, LazyKrivine.LITERAL, 0, 0, 0);
            x.start(0, 1000);
            Checks.due("promise 3: the limit stays", x.allowance(), 20);
            x.clear();
            Checks.same("promise 3: clear()", Checks.state(x), Checks.state(Checks.fresh()));
        }
    }

    private static void oldPartsDoNotShowAfterClear() {
        LazyKrivine x = Checks.fresh();
        fill(x, 3);
        Checks.branch(x, 1, 2, 1);
        x.clear();
        fill(x, 3);
        Checks.due("promise 5: kind(3) after clear()", x.kind(3), -1);
        Checks.due("promise 6: part(3, 1) after clear()", x.part(3, 1), 0);
        Checks.lambda(x, 2);
        Checks.due("promise 6: part(3, 1) of a new node", x.part(3, 1), 0);
        Checks.due("promise 6: part(3, 2) of a new node", x.part(3, 2), 0);
    }

    private static void kindAndPartOfWhatIsNotThere() {
        LazyKrivine x = Checks.fresh();
        Checks.literal(x, 9);
        Checks.literal(x, 8);
        Checks.branch(x, 1, 1, 1);
        for (int absent : new int[] {Integer.MIN_VALUE, -1, 3, 31, 32, 33, Integer.MAX_VALUE}) {
            Checks.due("promise 5: kind(" + absent + ")", x.kind(absent), -1);
            for (int which = 0; which < 3; which++) {
                Checks.due("promise 6: part(" + absent + ", " + which + ")", x.part(absent, which), 0);
            }
        }
        for (int which : new int[] {Integer.MIN_VALUE, -1, 3, 4, Integer.MAX_VALUE}) {
            Checks.due("promise 6: part(2, " + which + ")", x.part(2, which), 0);
        }
    }

    private static void lookingChangesNothing() {
        LazyKrivine x = Outcomes.reached(LazyKrivine.FUNCTION);
        String before = Checks.state(x);
        Checks.same("promises 4, 5, 6: looking twice", Checks.state(x), before);
    }
}
