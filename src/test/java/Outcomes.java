/** Objects in each of the eight outcomes. */
final class Outcomes {
    private Outcomes() {
    }

    /** Nodes 0 to 8 are the same in every such object; node 3 is the identity function. */
    static LazyKrivine reached(int outcome) {
        LazyKrivine x = Checks.fresh();
        Checks.literal(x, 41);
        Checks.variable(x, 0);
        Checks.lambda(x, 0);
        Checks.lambda(x, 1);
        Checks.recursive(x, 1);
        Checks.apply(x, 0, 0);
        Checks.operator(x, LazyKrivine.ADD, 3, 0);
        Checks.bomb(x);
        int held = Checks.recursive(x, 3);
        int[] ways = {-1, 0, held, 4, 1, 5, 6, 8};
        if (outcome != LazyKrivine.IDLE) {
            x.start(ways[outcome], 100);
        }
        Checks.due("reaching outcome " + outcome, x.outcome(), outcome);
        return x;
    }
}
