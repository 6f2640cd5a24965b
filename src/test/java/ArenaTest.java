import java.util.Arrays;

/** Promises 2, 4, 5 and 6: making nodes and looking at them. Above each test stands the sentence that it holds to. */
public final class ArenaTest {
    private static final int MIN = Checks.MIN;
    private static final int MAX = Checks.MAX;
    private static final int[] ODD_INTS = {MIN, -1000, -2, -1, 12, 32, 33, 1000, MAX};

    public static void main(String[] args) {
        wrongKindsAreRefused();
        fullArenaRefuses();
        lastCellIsUsed();
        wrongIndicesAreRefused();
        rightIndicesAreTaken();
        negativeChildrenAreRefused();
        childrenNotBelowSizeAreRefused();
        noNodeIsItsOwnChild();
        everyOlderNodeMayBeAChild();
        severalFaultsAreRefused();
        anyIntIsALiteral();
        unusedPartsNeverRefuse();
        numbersAreSizes();
        existingNodesStay();
        nodesNeverChange();
        nodesExistBelowSize();
        addLeavesTheSession();
        sizeCountsTheNodes();
        kindOfEachNode();
        kindOfWhatIsNotThere();
        partsOfEachNode();
        partOfWhatIsNotThere();
        partThatIsNone();
        lookingChangesNothing();
        Checks.finish();
    }

    private static int children(int kind) {
        if (kind < LazyKrivine.LAMBDA) {
            return 0;
        }
        if (kind == LazyKrivine.BRANCH) {
            return 3;
        }
        return kind < LazyKrivine.APPLY ? 1 : 2;
    }

    private static LazyKrivine ofSize(int size) {
        LazyKrivine x = Checks.fresh();
        States.fill(x, size);
        return x;
    }

    private static String call(int kind, int a, int b, int c) {
        return "promise 2: add(" + kind + ", " + a + ", " + b + ", " + c + ")";
    }

    private static void refusedIn(int state, int kind, int a, int b, int c) {
        String what = call(kind, a, b, c) + " when " + States.name(state);
        Twins.refuses(what, () -> States.make(state), x -> x.add(kind, a, b, c));
    }

    private static void refusedAt(int size, int kind, int a, int b, int c) {
        String what = call(kind, a, b, c) + " beside " + size + " nodes";
        Twins.refuses(what, () -> ofSize(size), x -> x.add(kind, a, b, c));
    }

    /** "answers `REFUSED` and changes nothing if .. `kind` is not 0..11" */
    private static void wrongKindsAreRefused() {
        for (int state = 0; state < States.COUNT; state++) {
            for (int kind : new int[] {MIN, -2, -1, 12, 13, 256, MAX}) {
                refusedIn(state, kind, 0, 0, 0);
            }
        }
    }

    /** ".. `size()` equals the (clamped) cells" */
    private static void fullArenaRefuses() {
        for (int kind = LazyKrivine.LITERAL; kind <= LazyKrivine.EQUAL; kind++) {
            refusedIn(States.FULL, kind, 0, 0, 0);
            refusedIn(States.FULL_OF_EIGHT, kind, 0, 0, 0);
            int made = kind;
            Twins.refuses("promise 2: node 21 of 20", () -> {
                LazyKrivine x = new LazyKrivine(20, 100);
                States.fill(x, 20);
                return x;
            }, x -> x.add(made, 0, 0, 0));
        }
    }

    private static void lastCellIsUsed() {
        for (int kind = LazyKrivine.LITERAL; kind <= LazyKrivine.EQUAL; kind++) {
            LazyKrivine x = ofSize(31);
            Checks.due("promise 2: the last cell for kind " + kind, x.add(kind, 30, 30, 30), 31);
            Checks.due("promise 5: the last cell's kind", x.kind(31), kind);
            Checks.due("promise 6: the last cell's part", x.part(31, 0), 30);
            x = new LazyKrivine(8, 16);
            States.fill(x, 7);
            Checks.due("promise 2: the eighth cell for kind " + kind, x.add(kind, 6, 6, 6), 7);
        }
    }

    /** ".. the kind is `VARIABLE` and `a` is not 0..31" */
    private static void wrongIndicesAreRefused() {
        for (int state = 0; state < States.COUNT; state++) {
            for (int index : new int[] {MIN, -1000, -1, 32, 33, 1000, MAX}) {
                refusedIn(state, LazyKrivine.VARIABLE, index, 0, 0);
            }
        }
    }

    private static void rightIndicesAreTaken() {
        LazyKrivine x = Checks.fresh();
        for (int index = 0; index <= 31; index++) {
            // An index is no node: 31 - index is not below size() in the first half.
            Checks.due("promise 2: index " + (31 - index), Checks.variable(x, 31 - index), index);
            Checks.due("promise 6: index " + (31 - index), x.part(index, 0), 31 - index);
        }
    }

    private static void refusedInEachPlace(int size, int kind, int absent) {
        refusedAt(size, kind, absent, 0, 0);
        if (children(kind) >= 2) {
            refusedAt(size, kind, 0, absent, 0);
        }
        if (children(kind) >= 3) {
            refusedAt(size, kind, 0, 0, absent);
        }
    }

    /** ".. it is negative" */
    private static void negativeChildrenAreRefused() {
        for (int kind = LazyKrivine.LAMBDA; kind <= LazyKrivine.EQUAL; kind++) {
            for (int absent : new int[] {MIN, -32, -1}) {
                refusedInEachPlace(0, kind, absent);
                refusedInEachPlace(2, kind, absent);
                refusedInEachPlace(31, kind, absent);
            }
        }
    }

    /** ".. or not below `size()` as it was before the call" */
    private static void childrenNotBelowSizeAreRefused() {
        for (int kind = LazyKrivine.LAMBDA; kind <= LazyKrivine.EQUAL; kind++) {
            for (int size : new int[] {0, 1, 5, 30}) {
                for (int absent : new int[] {size, size + 1, 31, 32, 33, MAX}) {
                    refusedInEachPlace(size, kind, absent);
                }
            }
        }
    }

    /** "In particular a node cannot be its own child." */
    private static void noNodeIsItsOwnChild() {
        for (int kind = LazyKrivine.LAMBDA; kind <= LazyKrivine.EQUAL; kind++) {
            for (int size = 0; size < 32; size++) {
                refusedInEachPlace(size, kind, size);
            }
        }
    }

    /** "The children of a node are older nodes; one node may be the child of any number of nodes." */
    private static void everyOlderNodeMayBeAChild() {
        for (int kind = LazyKrivine.LAMBDA; kind <= LazyKrivine.EQUAL; kind++) {
            for (int child = 0; child < 20; child++) {
                LazyKrivine x = ofSize(20);
                Checks.due(call(kind, child, 0, 19), x.add(kind, child, 0, 19), 20);
                Checks.due(call(kind, 19, child, 0), x.add(kind, 19, child, 0), 21);
                Checks.due(call(kind, 0, 19, child), x.add(kind, 0, 19, child), 22);
                Checks.due(call(kind, child, child, child), x.add(kind, child, child, child), 23);
            }
        }
    }

    /** "if any of these holds": also if several do. */
    private static void severalFaultsAreRefused() {
        for (int state = 0; state < States.COUNT; state++) {
            refusedIn(state, -1, -1, -1, -1);
            refusedIn(state, 12, MAX, MAX, MAX);
            refusedIn(state, LazyKrivine.BRANCH, -1, 32, MIN);
        }
        refusedIn(States.FULL, LazyKrivine.VARIABLE, 32, 0, 0);
        refusedIn(States.FULL, LazyKrivine.APPLY, 32, -1, 0);
    }

    /** "Any `a` is right for `LITERAL`." */
    private static void anyIntIsALiteral() {
        for (int integer : new int[] {MIN, MIN + 1, -65536, -1, 0, 1, 31, 32, 240, 65536, MAX - 1, MAX}) {
            LazyKrivine x = Checks.fresh();
            Checks.due("promise 2: literal " + integer, Checks.literal(x, integer), 0);
            Checks.due("promise 6: literal " + integer, x.part(0, 0), integer);
        }
    }

    /** "Parts that the kind does not use may be anything, never cause a refusal, and are kept as 0.", but "`BRANCH`
     * uses all three parts" */
    private static void unusedPartsNeverRefuse() {
        for (int kind = LazyKrivine.LITERAL; kind <= LazyKrivine.EQUAL; kind++) {
            for (int odd : ODD_INTS) {
                for (int size : new int[] {0, 3, 31}) {
                    if (size > 0 || children(kind) == 0) {
                        unusedPartsAreZero(size, kind, odd);
                    }
                }
            }
        }
    }

    private static void unusedPartsAreZero(int size, int kind, int odd) {
        LazyKrivine x = ofSize(size);
        boolean usesB = children(kind) >= 2;
        boolean usesC = children(kind) >= 3;
        int a = kind == LazyKrivine.LITERAL ? odd : 2;
        int b = usesB ? 1 : odd;
        int c = usesC ? 2 : odd;
        String what = call(kind, a, b, c) + " beside " + size + " nodes";
        Checks.due(what, x.add(kind, a, b, c), size);
        Checks.due(what + " kind", x.kind(size), kind);
        Checks.due(what + " part 0", x.part(size, 0), a);
        Checks.due(what + " part 1", x.part(size, 1), usesB ? 1 : 0);
        Checks.due(what + " part 2", x.part(size, 2), usesC ? 2 : 0);
    }

    /** "the new node gets the number that `size()` had before the call, `size()` grows by 1, and that number is the
     * answer" */
    private static void numbersAreSizes() {
        LazyKrivine x = Checks.fresh();
        for (int node = 0; node < 32; node++) {
            int kind = node == 0 ? LazyKrivine.LITERAL : node % 12;
            Checks.due("promise 2: node " + node, x.add(kind, 0, 0, 0), node);
            Checks.due("promise 4: size() after node " + node, x.size(), node + 1);
            Checks.due("promise 5: kind(" + node + ")", x.kind(node), kind);
        }
    }

    /** "Existing nodes do not change." */
    private static void existingNodesStay() {
        LazyKrivine x = Checks.fresh();
        int[][] want = new int[32][];
        for (int node = 0; node < 32; node++) {
            int kind = node < 3 ? LazyKrivine.LITERAL : node % 12;
            int a = kind == LazyKrivine.LITERAL ? -node : node - 1;
            int b = children(kind) >= 2 ? node - 2 : 0;
            int c = children(kind) >= 3 ? node - 3 : 0;
            want[node] = new int[] {kind, a, b, c};
            Checks.due("promise 2: node " + node, x.add(kind, a, b, c), node);
            for (int old = 0; old <= node; old++) {
                String got = Arrays.toString(new int[] {x.kind(old), x.part(old, 0), x.part(old, 1), x.part(old, 2)});
                Checks.same("promise 2: node " + old + " beside " + node, got, Arrays.toString(want[old]));
            }
        }
    }

    /** "it never changes until `clear()`" */
    private static void nodesNeverChange() {
        for (int state = 0; state < States.COUNT; state++) {
            LazyKrivine x = States.make(state);
            String before = Checks.nodes(x);
            for (int number = -2; number < 34; number++) {
                x.demand(number);
                x.supply(number);
                x.start(number, number);
                x.demand(number);
                x.captured(number);
                x.add(LazyKrivine.APPLY, number, -1, number);
                x.add(12, number, number, number);
                Checks.same("promise 2: the nodes when " + States.name(state), Checks.nodes(x), before);
            }
        }
    }

    /** "Node n *exists* when 0 <= n < `size()`." */
    private static void nodesExistBelowSize() {
        for (int size = 0; size < 32; size++) {
            for (int node = -2; node < 35; node++) {
                LazyKrivine x = ofSize(size);
                boolean exists = node >= 0 && node < size;
                String what = "node " + node + " of " + size;
                Checks.due(what + ", kind()", x.kind(node), exists ? LazyKrivine.LITERAL : -1);
                Checks.due(what + ", start()", x.start(node, 3), exists ? LazyKrivine.INTEGER : LazyKrivine.REFUSED);
                Checks.due(what + ", add()", Checks.lambda(x, node), exists ? size : LazyKrivine.REFUSED);
            }
        }
    }

    /** "The session is not touched, whatever its outcome: outcome, result, charge, allowance and held function
     * stay." */
    private static void addLeavesTheSession() {
        for (int state = 0; state < States.COUNT; state++) {
            for (int way = -2; way <= 1; way++) {
                LazyKrivine x = States.make(state);
                LazyKrivine twin = States.make(state);
                String what = "promise 2: add when " + States.name(state);
                int number = States.hasRoom(state) ? x.size() : LazyKrivine.REFUSED;
                Checks.due(what, Checks.literal(x, 77), number);
                sameSession(what, x, twin);
                Checks.due(what + ", going on", goOn(x, way), goOn(twin, way));
                sameSession(what + ", gone on", x, twin);
            }
        }
    }

    private static int goOn(LazyKrivine x, int way) {
        return way < 0 ? x.supply(-1 - way) : x.demand(way);
    }

    private static void sameSession(String what, LazyKrivine x, LazyKrivine twin) {
        Checks.same(what, Checks.session(x), Checks.session(twin));
        Checks.same(what + " captured", Checks.bindings(x), Checks.bindings(twin));
    }

    /** "`size()` answers the number of nodes that exist." */
    private static void sizeCountsTheNodes() {
        int[] sizes = {10, 10, 10, 10, 10, 10, 10, 10, 0, 0, 9, 32, 9, 8};
        for (int state = 0; state < States.COUNT; state++) {
            LazyKrivine x = States.make(state);
            Checks.due("promise 4: size() when " + States.name(state), x.size(), sizes[state]);
            x.add(-1, 0, 0, 0);
            Checks.due("promise 4: size() after a refusal when " + States.name(state), x.size(), sizes[state]);
        }
    }

    private static LazyKrivine ofEveryKind() {
        LazyKrivine x = ofSize(3);
        for (int kind = LazyKrivine.LITERAL; kind <= LazyKrivine.EQUAL; kind++) {
            x.add(kind, 1, 2, 1);
        }
        return x;
    }

    /** "`kind(node)` answers the kind (0..11) of the node" */
    private static void kindOfEachNode() {
        LazyKrivine x = ofEveryKind();
        for (int kind = LazyKrivine.LITERAL; kind <= LazyKrivine.EQUAL; kind++) {
            Checks.due("promise 5: kind(" + (3 + kind) + ")", x.kind(3 + kind), kind);
        }
        Checks.due("promise 5: kind(0)", x.kind(0), LazyKrivine.LITERAL);
    }

    /** "or -1 if it does not exist (negative, or not below `size()`)" */
    private static void kindOfWhatIsNotThere() {
        for (int state = 0; state < States.COUNT; state++) {
            LazyKrivine x = States.make(state);
            for (int absent : new int[] {MIN, -32, -1, x.size(), x.size() + 1, 32, 33, MAX}) {
                Checks.due("promise 5: kind(" + absent + ") when " + States.name(state), x.kind(absent), -1);
            }
            for (int node = 0; node < x.size(); node++) {
                Checks.due("promise 5: node " + node + " exists", x.kind(node) >= 0 ? 1 : 0, 1);
            }
        }
    }

    /** "`which` 0 is a, 1 is b, 2 is c. A part that the kind does not use is 0." */
    private static void partsOfEachNode() {
        LazyKrivine x = ofEveryKind();
        for (int kind = LazyKrivine.LITERAL; kind <= LazyKrivine.EQUAL; kind++) {
            int node = 3 + kind;
            Checks.due("promise 6: part(" + node + ", 0)", x.part(node, 0), 1);
            Checks.due("promise 6: part(" + node + ", 1)", x.part(node, 1), children(kind) >= 2 ? 2 : 0);
            Checks.due("promise 6: part(" + node + ", 2)", x.part(node, 2), children(kind) >= 3 ? 1 : 0);
        }
    }

    /** "It answers 0 if the node does not exist" */
    private static void partOfWhatIsNotThere() {
        for (int state = 0; state < States.COUNT; state++) {
            LazyKrivine x = States.make(state);
            for (int absent : new int[] {MIN, -32, -1, x.size(), x.size() + 1, 32, 33, MAX}) {
                for (int which : new int[] {MIN, -1, 0, 1, 2, 3, MAX}) {
                    String what = "promise 6: part(" + absent + ", " + which + ") when " + States.name(state);
                    Checks.due(what, x.part(absent, which), 0);
                }
            }
        }
    }

    /** "or `which` is not 0..2" */
    private static void partThatIsNone() {
        LazyKrivine x = ofSize(32 - 12);
        for (int kind = LazyKrivine.LITERAL; kind <= LazyKrivine.EQUAL; kind++) {
            x.add(kind, 18, 18, 18);
        }
        for (int node = 0; node < 32; node++) {
            for (int which : new int[] {MIN, -2, -1, 3, 4, MAX}) {
                Checks.due("promise 6: part(" + node + ", " + which + ")", x.part(node, which), 0);
            }
        }
    }

    /** "It changes nothing." */
    private static void lookingChangesNothing() {
        for (int state = 0; state < States.COUNT; state++) {
            int made = state;
            String when = " when " + States.name(state);
            Twins.changesNothing("promise 4: size()" + when, () -> States.make(made), x -> x.size());
            for (int node : new int[] {MIN, -1, 0, 5, 31, 32, MAX}) {
                Twins.changesNothing("promise 5: kind()" + when, () -> States.make(made), x -> x.kind(node));
                for (int which : new int[] {-1, 0, 1, 2, 3}) {
                    Twins.changesNothing("promise 6: part()" + when, () -> States.make(made), x -> x.part(node, which));
                }
            }
        }
    }
}
