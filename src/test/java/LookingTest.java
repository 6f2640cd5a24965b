import java.util.function.ToIntFunction;

/** Promises 10 to 14: looking at the session. Above each test stands the sentence that it holds to. */
public final class LookingTest {
    private static final int MIN = Checks.MIN;
    private static final int MAX = Checks.MAX;

    public static void main(String[] args) {
        outcomeIsOneOfEight();
        resultIsAnyInteger();
        resultIsTheLambda();
        resultIsTheFaultyNode();
        resultIsZeroWhenIdle();
        resultIsZeroWhenExhausted();
        chargeIsZeroWhenIdle();
        chargeIsNeverAboveTheAllowance();
        chargeCountsEveryCall();
        refusedCallsAreNotCharged();
        allowanceIsZeroWhenIdle();
        allowanceIsClamped();
        capturedNeedsAFunction();
        functionsAreHeldOnlyWhileFunction();
        capturedNeedsAnIndexOfZeroOrMore();
        capturedNeedsABinding();
        capturedIsTheNodeOfTheBinding();
        capturedEvaluatesNothing();
        lookingChangesNothing();
        Checks.finish();
    }

    /** "`outcome()` answers the outcome of the session, one of the eight constants" */
    private static void outcomeIsOneOfEight() {
        String[] want = {
            Checks.session(LazyKrivine.IDLE, 0, 0, 0),
            Checks.session(LazyKrivine.INTEGER, 41, 1, 100),
            Checks.session(LazyKrivine.FUNCTION, 3, 2, 100),
            Checks.session(LazyKrivine.EXHAUSTED, 0, 100, 100),
            Checks.session(LazyKrivine.UNBOUND, 1, 1, 100),
            Checks.session(LazyKrivine.NOT_FUNCTION, 5, 2, 100),
            Checks.session(LazyKrivine.NOT_INTEGER, 6, 2, 100),
            Checks.session(LazyKrivine.ZERO_DIVISOR, 8, 3, 100),
            Checks.session(LazyKrivine.IDLE, 0, 0, 0),
            Checks.session(LazyKrivine.IDLE, 0, 0, 0),
            Checks.session(LazyKrivine.FUNCTION, 4, 5, 100),
            Checks.session(LazyKrivine.FUNCTION, 4, 5, 100),
            Checks.session(LazyKrivine.FUNCTION, 4, 5, 5),
            Checks.session(LazyKrivine.INTEGER, 105, 1, 10)};
        for (int state = 0; state < States.COUNT; state++) {
            Checks.same("promises 10 to 13: " + States.name(state), Checks.session(States.make(state)), want[state]);
        }
    }

    /** "`INTEGER`: the integer (any int)" */
    private static void resultIsAnyInteger() {
        for (int integer : new int[] {MIN, MIN + 1, -2, -1, 0, 1, 31, 32, 240, MAX - 1, MAX}) {
            LazyKrivine x = States.make(LazyKrivine.FUNCTION);
            int node = Checks.literal(x, integer);
            x.supply(node);
            Checks.due("promise 11: result() after supply", x.result(), integer);
            x.start(node, 1);
            Checks.due("promise 11: result() after start", x.result(), integer);
        }
    }

    /** "`FUNCTION`: the `LAMBDA` node of the held function" */
    private static void resultIsTheLambda() {
        for (int number = 1; number < 32; number++) {
            LazyKrivine x = Checks.fresh();
            States.fill(x, number);
            x.start(Checks.lambda(x, 0), 9);
            Checks.due("promise 11: result()", x.result(), number);
        }
    }

    /** "`UNBOUND`, `NOT_FUNCTION`, `NOT_INTEGER`, `ZERO_DIVISOR`: the node at which the session stopped" */
    private static void resultIsTheFaultyNode() {
        for (int number = 2; number < 32; number++) {
            for (int way = 0; way < 4; way++) {
                LazyKrivine x = Checks.fresh();
                Checks.literal(x, 0);
                Checks.lambda(x, 0);
                States.fill(x, number);
                int node = faulty(x, way);
                Checks.due("promise 11: start", x.start(node, 9), LazyKrivine.UNBOUND + way);
                Checks.due("promise 11: result()", x.result(), number);
            }
        }
        LazyKrivine x = Checks.fresh();
        x.start(Checks.variable(x, 0), 9);
        Checks.due("promise 11: result() of a fault at node 0", x.result(), 0);
    }

    /** Node 0 is the literal 0 and node 1 a function. */
    private static int faulty(LazyKrivine x, int way) {
        switch (way) {
            case 0:
                return Checks.variable(x, 0);
            case 1:
                return Checks.apply(x, 0, 0);
            case 2:
                return Checks.branch(x, 1, 0, 0);
            default:
                return Checks.operator(x, LazyKrivine.QUOTIENT, 0, 0);
        }
    }

    private static void zeroWhenIdle(String what, ToIntFunction<LazyKrivine> look) {
        Checks.due(what + " when new", look.applyAsInt(Checks.fresh()), 0);
        for (int state = 0; state < States.COUNT; state++) {
            LazyKrivine x = States.make(state);
            x.clear();
            Checks.due(what + " after clear() when " + States.name(state), look.applyAsInt(x), 0);
            Checks.literal(x, 1);
            x.start(1, 5);
            Checks.due(what + " after a refused start", look.applyAsInt(x), 0);
        }
    }

    /** "`IDLE` and `EXHAUSTED`: 0" */
    private static void resultIsZeroWhenIdle() {
        zeroWhenIdle("promise 11: result()", x -> x.result());
    }

    private static void resultIsZeroWhenExhausted() {
        for (int outcome = LazyKrivine.IDLE; outcome <= LazyKrivine.ZERO_DIVISOR; outcome++) {
            LazyKrivine x = States.make(outcome);
            Checks.due("promise 11: the loop", x.start(4, 50), LazyKrivine.EXHAUSTED);
            Checks.due("promise 11: result() after start", x.result(), 0);
        }
        LazyKrivine x = States.make(States.SPENT);
        Checks.due("promise 11: supply", x.supply(0), LazyKrivine.EXHAUSTED);
        Checks.due("promise 11: result() after supply", x.result(), 0);
        x = States.make(States.SPENT);
        Checks.due("promise 11: demand", x.demand(0), LazyKrivine.EXHAUSTED);
        Checks.due("promise 11: result() after demand", x.result(), 0);
    }

    /** "0 while `IDLE`" */
    private static void chargeIsZeroWhenIdle() {
        zeroWhenIdle("promise 12: charge()", x -> x.charge());
    }

    /** "It is never above the allowance." */
    private static void chargeIsNeverAboveTheAllowance() {
        for (int allowance = -1; allowance <= 245; allowance++) {
            LazyKrivine x = States.make(LazyKrivine.IDLE);
            x.start(9, allowance);
            for (int round = 0; round < 90; round++) {
                x.demand(0);
                Checks.due("promise 12: charge()", x.charge() > x.allowance() ? 1 : 0, 0);
            }
            Checks.due("promise 12: charge() at last", x.charge(), x.allowance());
            x.start(4, allowance);
            Checks.due("promise 12: charge() of a loop", x.charge(), x.allowance());
        }
    }

    /** "over its `start` and all later `supply` and `demand` calls" */
    private static void chargeCountsEveryCall() {
        LazyKrivine x = States.make(LazyKrivine.FUNCTION);
        int[] want = {2, 5, 9, 12, 16, 19};
        for (int call = 0; call < want.length; call++) {
            if (call > 0) {
                Checks.due("promise 12: call " + call, call % 2 == 1 ? x.demand(0) : x.supply(9), LazyKrivine.FUNCTION);
            }
            Checks.due("promise 12: charge() after call " + call, x.charge(), want[call]);
        }
    }

    /** ".. that were not refused" */
    private static void refusedCallsAreNotCharged() {
        for (int state = 0; state < States.COUNT; state++) {
            LazyKrivine x = States.make(state);
            int charge = x.charge();
            for (int round = 0; round < 300; round++) {
                x.start(-1, 100);
                x.supply(x.size());
                x.demand(2);
                x.add(LazyKrivine.LAMBDA, -1, 0, 0);
            }
            Checks.due("promise 12: charge() after refusals when " + States.name(state), x.charge(), charge);
        }
    }

    /** "0 while `IDLE`" */
    private static void allowanceIsZeroWhenIdle() {
        zeroWhenIdle("promise 13: allowance()", x -> x.allowance());
    }

    /** "`allowance()` answers the (clamped) allowance of the session" */
    private static void allowanceIsClamped() {
        int[][] rows = {
            {MIN, 1, 1}, {-1, 1, 1}, {0, 1, 1}, {1, 1, 1}, {2, 2, 2}, {15, 15, 15}, {16, 16, 16}, {17, 16, 17},
            {239, 16, 239}, {240, 16, 240}, {241, 16, 240}, {MAX, 16, 240}};
        for (int[] row : rows) {
            LazyKrivine least = new LazyKrivine(8, MIN);
            least.start(Checks.literal(least, 3), row[0]);
            Checks.due("promise 13: allowance " + row[0] + " of 16", least.allowance(), row[1]);
            LazyKrivine most = new LazyKrivine(8, MAX);
            most.start(Checks.literal(most, 3), row[0]);
            Checks.due("promise 13: allowance " + row[0] + " of 240", most.allowance(), row[2]);
        }
    }

    /** "Otherwise it answers -1: for every other outcome" */
    private static void capturedNeedsAFunction() {
        for (int state = 0; state < States.COUNT; state++) {
            if (!States.holds(state)) {
                for (int index : new int[] {MIN, -1, 0, 1, 2, 30, 31, 32, 240, 241, MAX}) {
                    String what = "promise 14: captured(" + index + ") when " + States.name(state);
                    Checks.due(what, States.make(state).captured(index), -1);
                }
            }
        }
    }

    /** "only while its outcome is `FUNCTION`, a held function" */
    private static void functionsAreHeldOnlyWhileFunction() {
        int[][] rows = {
            {0, LazyKrivine.INTEGER}, {4, LazyKrivine.EXHAUSTED}, {1, LazyKrivine.UNBOUND},
            {5, LazyKrivine.NOT_FUNCTION}, {6, LazyKrivine.NOT_INTEGER}, {8, LazyKrivine.ZERO_DIVISOR}};
        for (int[] row : rows) {
            String what = "promise 14: after node " + row[0];
            LazyKrivine x = States.make(LazyKrivine.FUNCTION);
            Checks.due(what + " started", x.start(row[0], 50), row[1]);
            Checks.holdsNothing(what + " started", x);
            x = States.make(LazyKrivine.FUNCTION);
            Checks.due(what + " supplied", x.supply(row[0]), row[1]);
            Checks.holdsNothing(what + " supplied", x);
            x = States.make(LazyKrivine.FUNCTION);
            x.start(Checks.lambda(x, 3), 50);
            Checks.due(what + " bound", x.supply(row[0]), LazyKrivine.FUNCTION);
            Checks.due(what + " demanded", x.demand(0), row[1]);
            Checks.holdsNothing(what + " demanded", x);
        }
    }

    /** ".. for a negative index" */
    private static void capturedNeedsAnIndexOfZeroOrMore() {
        for (int state : States.HOLDERS) {
            for (int index : new int[] {MIN, MIN + 1, -240, -2, -1}) {
                String what = "promise 14: captured(" + index + ") when " + States.name(state);
                Checks.due(what, States.make(state).captured(index), -1);
            }
        }
    }

    /** ".. and for an index not below the number of bindings" */
    private static void capturedNeedsABinding() {
        for (int index : new int[] {1, 2, 3, 31, 32, 240, 241, MAX}) {
            String what = "promise 14: captured(" + index + ")";
            Checks.due(what, States.make(LazyKrivine.FUNCTION).captured(index), -1);
            if (index >= 2) {
                Checks.due(what + " when holding", States.make(States.HOLDING).captured(index), -1);
                Checks.due(what + " when full", States.make(States.FULL).captured(index), -1);
                Checks.due(what + " when spent", States.make(States.SPENT).captured(index), -1);
            }
        }
        LazyKrivine x = Checks.fresh();
        x.start(Checks.lambda(x, Checks.literal(x, 0)), 9);
        for (int index : new int[] {0, 1, 31, MAX}) {
            Checks.due("promise 14: captured(" + index + ") of no bindings", x.captured(index), -1);
        }
    }

    /** "the node of that binding" */
    private static void capturedIsTheNodeOfTheBinding() {
        Checks.due("promise 14: captured(0)", States.make(LazyKrivine.FUNCTION).captured(0), 9);
        for (int state : new int[] {States.HOLDING, States.FULL, States.SPENT}) {
            Checks.due("promise 14: captured(0) when " + States.name(state), States.make(state).captured(0), 1);
            Checks.due("promise 14: captured(1) when " + States.name(state), States.make(state).captured(1), 0);
        }
    }

    /** "It evaluates nothing and changes nothing; the charge stays." */
    private static void capturedEvaluatesNothing() {
        LazyKrivine x = Checks.fresh();
        int bomb = Checks.bomb(x);
        int outer = Checks.lambda(x, Checks.lambda(x, bomb));
        x.start(outer, 3);
        x.supply(bomb);
        for (int round = 0; round < 300; round++) {
            Checks.due("promise 14: captured(0)", x.captured(0), bomb);
            Checks.due("promise 14: captured(1)", x.captured(1), -1);
            Checks.due("promise 14: outcome()", x.outcome(), LazyKrivine.FUNCTION);
            Checks.due("promise 14: charge()", x.charge(), 3);
        }
    }

    /** "It changes nothing." */
    private static void lookingChangesNothing() {
        for (int state = 0; state < States.COUNT; state++) {
            int made = state;
            String when = " when " + States.name(state);
            Twins.changesNothing("promise 10: outcome()" + when, () -> States.make(made), x -> x.outcome());
            Twins.changesNothing("promise 11: result()" + when, () -> States.make(made), x -> x.result());
            Twins.changesNothing("promise 12: charge()" + when, () -> States.make(made), x -> x.charge());
            Twins.changesNothing("promise 13: allowance()" + when, () -> States.make(made), x -> x.allowance());
            for (int index : new int[] {MIN, -1, 0, 1, 2, 31, MAX}) {
                String what = "promise 14: captured(" + index + ")" + when;
                Twins.changesNothing(what, () -> States.make(made), x -> x.captured(index));
            }
        }
    }
}
