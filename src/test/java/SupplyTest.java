/** Promise 8: applying the held function. Above each test stands the sentence that it holds to. */
public final class SupplyTest {
    private static final int MIN = Checks.MIN;
    private static final int MAX = Checks.MAX;

    public static void main(String[] args) {
        refusedWithoutAFunction();
        refusedWithoutTheNode();
        refusedEvenWhenSpent();
        laterNodesAreAllowed();
        exhaustedAtOnce();
        exhaustedAtTheFirstNode();
        justEnough();
        costsOneMore();
        chargeContinues();
        argumentsHaveTheEmptyEnvironment();
        bindingsStandInOrder();
        bindingsBeyondTheSupplied();
        everyOutcomeIsAnswered();
        allowanceAndNodesStay();
        supplyUntilExhausted();
        Checks.finish();
    }

    private static void refused(int state, int node) {
        String what = "supply(" + node + ") when " + States.name(state);
        Twins.refuses(what, () -> States.make(state), x -> x.supply(node));
    }

    /** "answers `REFUSED` and changes nothing if the outcome is not `FUNCTION`" */
    private static void refusedWithoutAFunction() {
        for (int state = 0; state < States.COUNT; state++) {
            if (!States.holds(state)) {
                for (int node : new int[] {MIN, -1, 0, 3, 7, 9, 10, 31, 32, MAX}) {
                    refused(state, node);
                }
            }
        }
    }

    /** ".. or the node does not exist" */
    private static void refusedWithoutTheNode() {
        for (int state : new int[] {LazyKrivine.FUNCTION, States.HOLDING, States.FULL}) {
            int size = States.make(state).size();
            for (int absent : new int[] {MIN, -32, -1, size, size + 1, 32, 33, MAX}) {
                refused(state, absent);
            }
        }
    }

    /** An absent node is refused before the charge is looked at. */
    private static void refusedEvenWhenSpent() {
        int size = States.make(States.SPENT).size();
        for (int absent : new int[] {MIN, -1, size, size + 1, 32, MAX}) {
            refused(States.SPENT, absent);
        }
    }

    /** "A node made after the session began is allowed as well." */
    private static void laterNodesAreAllowed() {
        LazyKrivine x = Checks.fresh();
        int identity = Checks.lambda(x, Checks.variable(x, 0));
        x.start(identity, 100);
        Checks.due("a node not yet made", x.supply(2), LazyKrivine.REFUSED);
        int later = Checks.literal(x, 33);
        Checks.ends("a later node", x, x.supply(later), LazyKrivine.INTEGER, 33, 4);
        x.start(identity, 100);
        States.fill(x, 32);
        Checks.ends("the last node", x, x.supply(31), LazyKrivine.INTEGER, 131, 4);
        x.clear();
        x.start(Checks.lambda(x, Checks.variable(x, 0)), 100);
        int calling = Checks.apply(x, 1, 1);
        Checks.ends("a later call", x, x.supply(calling), LazyKrivine.FUNCTION, 1, 7);
    }

    /** "if the charge equals the allowance, the session stops with `EXHAUSTED`: the result is 0, no function is held,
     * and the charge stays" */
    private static void exhaustedAtOnce() {
        for (int node = 0; node < 9; node++) {
            LazyKrivine x = States.make(States.SPENT);
            Checks.ends("supply when spent", x, x.supply(node), LazyKrivine.EXHAUSTED, 0, States.HELD_CHARGE);
            Checks.due("allowance() stays", x.allowance(), States.HELD_CHARGE);
            Checks.due("captured(1)", x.captured(1), -1);
        }
        LazyKrivine x = Checks.fresh();
        Checks.literal(x, 9);
        int function = Checks.lambda(x, 0);
        x.start(function, MIN);
        Checks.ends("supply within 1", x, x.supply(0), LazyKrivine.EXHAUSTED, 0, 1);
    }

    /** "The growth by 1 is in addition to what that EVAL itself charges": so one left is not enough. */
    private static void exhaustedAtTheFirstNode() {
        LazyKrivine x = States.holding(States.HELD_CHARGE + 1);
        Checks.ends("supply with 1 left", x, x.supply(0), LazyKrivine.EXHAUSTED, 0, States.HELD_CHARGE + 1);
        Checks.due("allowance() stays", x.allowance(), States.HELD_CHARGE + 1);
    }

    private static void justEnough() {
        for (int left = 0; left <= 9; left++) {
            int allowance = States.HELD_CHARGE + left;
            LazyKrivine x = States.holding(allowance);
            int answer = x.supply(0);
            if (left < 7) {
                Checks.ends("supply with " + left + " left", x, answer, LazyKrivine.EXHAUSTED, 0, allowance);
            } else {
                Checks.ends("supply with " + left + " left", x, answer, LazyKrivine.INTEGER, 14, 12);
            }
            Checks.due("allowance() stays", x.allowance(), allowance);
        }
        LazyKrivine x = Checks.fresh();
        int function = Checks.lambda(x, Checks.literal(x, 9));
        x.start(function, 3);
        Checks.ends("supply with just 2 left", x, x.supply(1), LazyKrivine.INTEGER, 9, 3);
    }

    /** "If not, the charge grows by 1" */
    private static void costsOneMore() {
        LazyKrivine x = Checks.fresh();
        int nine = Checks.literal(x, 9);
        int function = Checks.lambda(x, nine);
        x.start(function, 50);
        Checks.ends("a literal body", x, x.supply(nine), LazyKrivine.INTEGER, 9, 3);
        int outer = Checks.lambda(x, function);
        x.start(outer, 50);
        Checks.ends("a lambda body", x, x.supply(nine), LazyKrivine.FUNCTION, function, 3);
        Checks.due("its binding", x.captured(0), nine);
    }

    /** "the charge continues from where it stood" */
    private static void chargeContinues() {
        LazyKrivine x = Checks.fresh();
        int identity = Checks.lambda(x, Checks.variable(x, 0));
        int nine = Checks.literal(x, 9);
        x.start(identity, 50);
        for (int round = 1; round <= 10; round++) {
            int answer = x.supply(identity);
            Checks.ends("supply of itself", x, answer, LazyKrivine.FUNCTION, identity, 1 + 3 * round);
            Checks.due("its bindings", x.captured(0), -1);
            Checks.due("a refused supply", x.supply(-1), LazyKrivine.REFUSED);
        }
        Checks.ends("supply of a literal", x, x.supply(nine), LazyKrivine.INTEGER, 9, 34);
    }

    /** "d extended by (node, the empty environment)" */
    private static void argumentsHaveTheEmptyEnvironment() {
        LazyKrivine x = States.holding(100);
        int zeroth = 1;
        Checks.ends("an open argument", x, x.supply(zeroth), LazyKrivine.UNBOUND, zeroth, 9);
        x = Checks.fresh();
        int five = Checks.literal(x, 5);
        int name = Checks.variable(x, 0);
        int named = Checks.recursive(x, Checks.lambda(x, name));
        x.start(named, 100);
        Checks.ends("open beside a name", x, x.supply(name), LazyKrivine.UNBOUND, name, 5);
        x.start(named, 100);
        Checks.ends("closed beside a name", x, x.supply(five), LazyKrivine.INTEGER, 5, 5);
    }

    /** Supplies a body of one VARIABLE with so many literals, of which the last is binding 0. */
    private static LazyKrivine supplied(int index, int bindings) {
        LazyKrivine x = Checks.fresh();
        int function = Checks.variable(x, index);
        for (int level = 0; level < bindings; level++) {
            function = Checks.lambda(x, function);
        }
        x.start(function, 240);
        for (int level = 0; level < bindings; level++) {
            int argument = Checks.literal(x, 100 + level);
            int answer = x.supply(argument);
            if (level < bindings - 1) {
                Checks.ends("supply " + level, x, answer, LazyKrivine.FUNCTION, bindings - 1 - level, 3 + 2 * level);
                Checks.due("captured(0)", x.captured(0), argument);
                Checks.due("captured(" + level + ")", x.captured(level), bindings + 1);
                Checks.due("captured(" + (level + 1) + ")", x.captured(level + 1), -1);
            }
        }
        return x;
    }

    private static void bindingsStandInOrder() {
        for (int bindings = 1; bindings <= 15; bindings++) {
            for (int index = 0; index < bindings; index++) {
                LazyKrivine x = supplied(index, bindings);
                int integer = 100 + bindings - 1 - index;
                String what = "binding " + index + " of " + bindings;
                Checks.ends(what, x, x.outcome(), LazyKrivine.INTEGER, integer, 2 * bindings + 2);
            }
        }
    }

    private static void bindingsBeyondTheSupplied() {
        for (int bindings = 1; bindings <= 15; bindings++) {
            for (int index : new int[] {bindings, bindings + 1, 31}) {
                LazyKrivine x = supplied(index, bindings);
                String what = "binding " + index + " of " + bindings;
                Checks.ends(what, x, x.outcome(), LazyKrivine.UNBOUND, 0, 2 * bindings + 1);
            }
        }
    }

    /** "the session takes its value or has stopped", and "The answer is the new outcome." */
    private static void everyOutcomeIsAnswered() {
        int[][] rows = {
            {0, LazyKrivine.INTEGER, 41, 4}, {3, LazyKrivine.FUNCTION, 3, 4}, {9, LazyKrivine.FUNCTION, 3, 5},
            {4, LazyKrivine.EXHAUSTED, 0, 60}, {1, LazyKrivine.UNBOUND, 1, 4}, {5, LazyKrivine.NOT_FUNCTION, 5, 5},
            {6, LazyKrivine.NOT_INTEGER, 6, 5}, {8, LazyKrivine.ZERO_DIVISOR, 8, 6}};
        for (int[] row : rows) {
            LazyKrivine x = States.make(LazyKrivine.IDLE);
            x.start(3, 60);
            Checks.ends("supply(" + row[0] + ")", x, x.supply(row[0]), row[1], row[2], row[3]);
            Checks.due("supply(" + row[0] + ") allowance()", x.allowance(), 60);
        }
    }

    /** "The allowance and the nodes stay." */
    private static void allowanceAndNodesStay() {
        for (int state : States.HOLDERS) {
            int size = States.make(state).size();
            for (int node = 0; node < size; node++) {
                LazyKrivine x = States.make(state);
                String before = Checks.nodes(x);
                int allowance = x.allowance();
                x.supply(node);
                String what = "supply(" + node + ") when " + States.name(state);
                Checks.same(what, Checks.nodes(x), before);
                Checks.due(what + " allowance()", x.allowance(), allowance);
            }
        }
    }

    private static void supplyUntilExhausted() {
        LazyKrivine x = Checks.fresh();
        int self = Checks.variable(x, 1);
        int function = Checks.lambda(x, self);
        int named = Checks.recursive(x, function);
        x.start(named, 240);
        for (int round = 1; round <= 59; round++) {
            Checks.ends("round " + round, x, x.supply(self), LazyKrivine.FUNCTION, function, 2 + 4 * round);
        }
        Checks.ends("one round too many", x, x.supply(self), LazyKrivine.EXHAUSTED, 0, 240);
    }
}
