/** Promise 9: demanding a binding. Above each test stands the sentence that it holds to. */
public final class DemandTest {
    private static final int MIN = Checks.MIN;
    private static final int MAX = Checks.MAX;

    public static void main(String[] args) {
        refusedWithoutAFunction();
        refusedForNegativeIndices();
        refusedBeyondTheBindings();
        refusedWithoutBindings();
        refusedEvenWhenSpent();
        everyBindingIsReached();
        exhaustedAtOnce();
        exhaustedAtTheFirstNode();
        justEnough();
        costsOneMore();
        chargeContinues();
        bindingsHaveTheirOwnEnvironment();
        suppliedBindingsHaveTheEmptyEnvironment();
        theFunctionIsHeldNoLonger();
        theFunctionIsHeldIfTaken();
        everyOutcomeIsAnswered();
        allowanceAndNodesStay();
        Checks.finish();
    }

    private static void refused(int state, int index) {
        String what = "demand(" + index + ") when " + States.name(state);
        Twins.refuses(what, () -> States.make(state), x -> x.demand(index));
    }

    /** "answers `REFUSED` and changes nothing if the outcome is not `FUNCTION`" */
    private static void refusedWithoutAFunction() {
        for (int state = 0; state < States.COUNT; state++) {
            if (!States.holds(state)) {
                for (int index : new int[] {MIN, -1, 0, 1, 2, 31, 32, 240, MAX}) {
                    refused(state, index);
                }
            }
        }
    }

    /** ".. (negative ..)" */
    private static void refusedForNegativeIndices() {
        for (int state : new int[] {LazyKrivine.FUNCTION, States.HOLDING, States.FULL}) {
            for (int index : new int[] {MIN, MIN + 1, -240, -2, -1}) {
                refused(state, index);
            }
        }
    }

    /** ".. or not below the number of its bindings" */
    private static void refusedBeyondTheBindings() {
        for (int index : new int[] {1, 2, 31, 32, 240, 241, MAX}) {
            refused(LazyKrivine.FUNCTION, index);
        }
        for (int index : new int[] {2, 3, 31, 32, 240, 241, MAX}) {
            refused(States.HOLDING, index);
            refused(States.FULL, index);
        }
    }

    private static LazyKrivine closed() {
        LazyKrivine x = Checks.fresh();
        int function = Checks.lambda(x, Checks.literal(x, 1));
        x.start(function, 9);
        return x;
    }

    private static void refusedWithoutBindings() {
        for (int index : new int[] {MIN, -1, 0, 1, 31, MAX}) {
            Twins.refuses("demand(" + index + ") of no bindings", () -> closed(), x -> x.demand(index));
        }
    }

    /** An absent binding is refused before the charge is looked at. */
    private static void refusedEvenWhenSpent() {
        for (int index : new int[] {MIN, -1, 2, 3, MAX}) {
            refused(States.SPENT, index);
        }
    }

    /** Holds a function with so many literals bound, of which the last is binding 0. */
    private static LazyKrivine bound(int bindings) {
        LazyKrivine x = Checks.fresh();
        int function = Checks.literal(x, 50);
        for (int level = 0; level <= bindings; level++) {
            function = Checks.lambda(x, function);
        }
        x.start(function, 240);
        for (int level = 0; level < bindings; level++) {
            x.supply(Checks.literal(x, 100 + level));
        }
        Checks.ends(bindings + " bindings", x, x.outcome(), LazyKrivine.FUNCTION, 1, 1 + 2 * bindings);
        return x;
    }

    private static void everyBindingIsReached() {
        for (int bindings = 1; bindings <= 15; bindings++) {
            for (int index = 0; index < bindings; index++) {
                LazyKrivine x = bound(bindings);
                int integer = 100 + bindings - 1 - index;
                String what = "demand(" + index + ") of " + bindings;
                Checks.ends(what, x, x.demand(index), LazyKrivine.INTEGER, integer, 3 + 2 * bindings);
            }
            LazyKrivine x = bound(bindings);
            Checks.due("demand(" + bindings + ") of " + bindings, x.demand(bindings), LazyKrivine.REFUSED);
        }
    }

    /** "if the charge equals the allowance, the session stops with `EXHAUSTED`: the result is 0, no function is held,
     * and the charge stays" */
    private static void exhaustedAtOnce() {
        for (int index = 0; index < 2; index++) {
            LazyKrivine x = States.make(States.SPENT);
            Checks.ends("demand when spent", x, x.demand(index), LazyKrivine.EXHAUSTED, 0, States.HELD_CHARGE);
            Checks.due("allowance() stays", x.allowance(), States.HELD_CHARGE);
            Checks.due("captured(1)", x.captured(1), -1);
        }
    }

    /** "The growth by 1 is in addition to what that EVAL itself charges": so one left is not enough. */
    private static void exhaustedAtTheFirstNode() {
        LazyKrivine x = States.holding(States.HELD_CHARGE + 1);
        Checks.ends("demand with 1 left", x, x.demand(1), LazyKrivine.EXHAUSTED, 0, States.HELD_CHARGE + 1);
        Checks.due("allowance() stays", x.allowance(), States.HELD_CHARGE + 1);
    }

    private static void justEnough() {
        for (int index = 0; index < 2; index++) {
            int cost = index == 0 ? 3 : 2;
            for (int left = 0; left <= 5; left++) {
                int allowance = States.HELD_CHARGE + left;
                LazyKrivine x = States.holding(allowance);
                int answer = x.demand(index);
                String what = "demand(" + index + ") with " + left + " left";
                if (left < cost) {
                    Checks.ends(what, x, answer, LazyKrivine.EXHAUSTED, 0, allowance);
                } else {
                    Checks.ends(what, x, answer, LazyKrivine.INTEGER, 7, States.HELD_CHARGE + cost);
                }
                Checks.due(what + " allowance()", x.allowance(), allowance);
            }
        }
    }

    /** "If not, the charge grows by 1" */
    private static void costsOneMore() {
        LazyKrivine x = bound(1);
        Checks.ends("demand of a literal", x, x.demand(0), LazyKrivine.INTEGER, 100, 5);
    }

    /** "the charge continues from where it stood" */
    private static void chargeContinues() {
        LazyKrivine x = Checks.fresh();
        int function = Checks.lambda(x, Checks.literal(x, 8));
        int named = Checks.recursive(x, function);
        x.start(named, 240);
        for (int round = 1; round <= 79; round++) {
            Checks.ends("round " + round, x, x.demand(0), LazyKrivine.FUNCTION, function, 2 + 3 * round);
            Checks.due("captured(0) in round " + round, x.captured(0), named);
            Checks.due("a refused demand", x.demand(1), LazyKrivine.REFUSED);
        }
        Checks.ends("one round too many", x, x.demand(0), LazyKrivine.EXHAUSTED, 0, 240);
    }

    /** "with (m, d) being that binding, EVAL(m, d) is done" */
    private static void bindingsHaveTheirOwnEnvironment() {
        LazyKrivine x = States.holding(99);
        Checks.due("captured(0)", x.captured(0), 1);
        Checks.ends("a variable bound", x, x.demand(0), LazyKrivine.INTEGER, 7, States.HELD_CHARGE + 3);
    }

    private static void suppliedBindingsHaveTheEmptyEnvironment() {
        LazyKrivine x = Checks.fresh();
        int zeroth = Checks.variable(x, 0);
        int inner = Checks.lambda(x, zeroth);
        int outer = Checks.recursive(x, Checks.lambda(x, inner));
        x.start(outer, 99);
        Checks.ends("an open node supplied", x, x.supply(zeroth), LazyKrivine.FUNCTION, inner, 4);
        Checks.due("captured(0)", x.captured(0), zeroth);
        Checks.due("captured(1)", x.captured(1), outer);
        Checks.ends("an open node demanded", x, x.demand(0), LazyKrivine.UNBOUND, zeroth, 6);
    }

    /** "The function held before the call is held no longer" */
    private static void theFunctionIsHeldNoLonger() {
        LazyKrivine x = Checks.fresh();
        int identity = Checks.lambda(x, Checks.variable(x, 0));
        int inner = Checks.lambda(x, 0);
        int outer = Checks.lambda(x, inner);
        x.start(outer, 99);
        Checks.ends("supply of the identity", x, x.supply(identity), LazyKrivine.FUNCTION, inner, 3);
        Checks.ends("demand of the identity", x, x.demand(0), LazyKrivine.FUNCTION, identity, 5);
        Checks.due("its bindings", x.captured(0), -1);
        Checks.due("demand of none", x.demand(0), LazyKrivine.REFUSED);
        Checks.ends("the identity applied", x, x.supply(outer), LazyKrivine.FUNCTION, outer, 8);
        x = States.holding(99);
        Checks.ends("demand of an integer", x, x.demand(1), LazyKrivine.INTEGER, 7, States.HELD_CHARGE + 2);
        Checks.due("captured(1)", x.captured(1), -1);
        Checks.due("demand(1)", x.demand(1), LazyKrivine.REFUSED);
    }

    /** ".. unless it is the value taken" */
    private static void theFunctionIsHeldIfTaken() {
        LazyKrivine x = States.make(LazyKrivine.FUNCTION);
        Checks.ends("demand of the name", x, x.demand(0), LazyKrivine.FUNCTION, 3, 5);
        Checks.due("captured(0)", x.captured(0), 9);
        Checks.due("captured(1)", x.captured(1), -1);
        Checks.ends("the same function applied", x, x.supply(0), LazyKrivine.INTEGER, 41, 8);
    }

    /** "the session takes its value or has stopped", and "The answer is the new outcome." */
    private static void everyOutcomeIsAnswered() {
        int[][] rows = {
            {0, LazyKrivine.INTEGER, 41, 5}, {3, LazyKrivine.FUNCTION, 3, 5}, {9, LazyKrivine.FUNCTION, 3, 6},
            {4, LazyKrivine.EXHAUSTED, 0, 60}, {1, LazyKrivine.UNBOUND, 1, 5}, {5, LazyKrivine.NOT_FUNCTION, 5, 6},
            {6, LazyKrivine.NOT_INTEGER, 6, 6}, {8, LazyKrivine.ZERO_DIVISOR, 8, 7}};
        for (int[] row : rows) {
            LazyKrivine x = States.make(LazyKrivine.IDLE);
            x.start(Checks.lambda(x, 3), 60);
            String what = "demand of node " + row[0];
            Checks.ends(what + ", supplied", x, x.supply(row[0]), LazyKrivine.FUNCTION, 3, 3);
            Checks.due(what + ", captured", x.captured(0), row[0]);
            Checks.ends(what, x, x.demand(0), row[1], row[2], row[3]);
            Checks.due(what + " allowance()", x.allowance(), 60);
        }
    }

    /** "The allowance and the nodes stay." */
    private static void allowanceAndNodesStay() {
        for (int state : States.HOLDERS) {
            for (int index = 0; index < 2; index++) {
                LazyKrivine x = States.make(state);
                String before = Checks.nodes(x);
                int allowance = x.allowance();
                x.demand(index);
                String what = "demand(" + index + ") when " + States.name(state);
                Checks.same(what, Checks.nodes(x), before);
                Checks.due(what + " allowance()", x.allowance(), allowance);
            }
        }
    }
}
