/** Promises 8 to 14: going on with a held function, and looking at the session. */
public final class SessionTest {
    private static final int MIN = Integer.MIN_VALUE;
    private static final int MAX = Integer.MAX_VALUE;

    public static void main(String[] args) {
        supplyNeedsAFunctionAndANode();
        supplyCostsOneMore();
        supplyCollectsBindings();
        supplyIsExhausted();
        suppliedNodeHasTheEmptyEnvironment();
        supplyMeetsFaults();
        supplyTakesLaterNodes();
        demandNeedsABinding();
        demandCostsOneMore();
        demandUsesTheBindingsEnvironment();
        demandCanComeBack();
        demandIsExhausted();
        demandMeetsFaults();
        sessionIsSeen();
        capturedOnlyOfAFunction();
        lookingChangesNothing();
        Checks.finish();
    }

    private static void refusedSupply(LazyKrivine x, int node) {
        String before = Checks.state(x);
        Checks.due("promise 8: supply(" + node + ")", x.supply(node), LazyKrivine.REFUSED);
        Checks.same("promise 8: supply(" + node + ") changes nothing", Checks.state(x), before);
    }

    private static void refusedDemand(LazyKrivine x, int index) {
        String before = Checks.state(x);
        Checks.due("promise 9: demand(" + index + ")", x.demand(index), LazyKrivine.REFUSED);
        Checks.same("promise 9: demand(" + index + ") changes nothing", Checks.state(x), before);
    }

    private static void supplyNeedsAFunctionAndANode() {
        for (int outcome = LazyKrivine.IDLE; outcome <= LazyKrivine.ZERO_DIVISOR; outcome++) {
            LazyKrivine x = Outcomes.reached(outcome);
            for (int absent : new int[] {MIN, -1, x.size(), 32, MAX}) {
                refusedSupply(x, absent);
            }
            if (outcome != LazyKrivine.FUNCTION) {
                refusedSupply(x, 0);
            }
        }
    }

    private static void supplyCostsOneMore() {
        LazyKrivine x = Checks.fresh();
        int zeroth = Checks.variable(x, 0);
        int identity = Checks.lambda(x, zeroth);
        int nine = Checks.literal(x, 9);
        Checks.due("start of the identity", x.start(identity, 50), LazyKrivine.FUNCTION);
        Checks.ends("promise 8: supply itself", x, x.supply(identity), LazyKrivine.FUNCTION, identity, 4);
        Checks.due("promise 8: bindings of what came", x.captured(0), -1);
        Checks.ends("promise 8: supply a literal", x, x.supply(nine), LazyKrivine.INTEGER, 9, 7);
        Checks.due("promise 8: allowance()", x.allowance(), 50);
        refusedSupply(x, nine);
        refusedDemand(x, 0);
    }

    private static void supplyCollectsBindings() {
        LazyKrivine x = Checks.fresh();
        int ten = Checks.literal(x, 10);
        int four = Checks.literal(x, 4);
        int zeroth = Checks.variable(x, 0);
        int second = Checks.variable(x, 2);
        int body = Checks.operator(x, LazyKrivine.SUBTRACT, second, zeroth);
        int inner = Checks.lambda(x, body);
        int middle = Checks.lambda(x, inner);
        int outer = Checks.lambda(x, middle);
        x.start(outer, 100);
        Checks.ends("promise 8: first of three", x, x.supply(ten), LazyKrivine.FUNCTION, middle, 3);
        Checks.due("promise 14: captured(0) of one", x.captured(0), ten);
        Checks.due("promise 14: captured(1) of one", x.captured(1), -1);
        Checks.ends("promise 8: second of three", x, x.supply(outer), LazyKrivine.FUNCTION, inner, 5);
        Checks.due("promise 14: captured(0) of two", x.captured(0), outer);
        Checks.due("promise 14: captured(1) of two", x.captured(1), ten);
        Checks.due("promise 14: captured(2) of two", x.captured(2), -1);
        Checks.ends("promise 8: third of three", x, x.supply(four), LazyKrivine.INTEGER, 6, 11);
    }

    private static void supplyIsExhausted() {
        LazyKrivine x = Checks.fresh();
        int zeroth = Checks.variable(x, 0);
        int identity = Checks.lambda(x, zeroth);
        int nine = Checks.literal(x, 9);
        for (int allowance = 1; allowance <= 6; allowance++) {
            x.start(identity, allowance);
            int answer = x.supply(nine);
            if (allowance < 4) {
                Checks.ends("promise 8: within " + allowance, x, answer, LazyKrivine.EXHAUSTED, 0, allowance);
                Checks.due("promise 8: allowance() stays", x.allowance(), allowance);
                refusedSupply(x, nine);
                refusedDemand(x, 0);
            } else {
                Checks.ends("promise 8: within " + allowance, x, answer, LazyKrivine.INTEGER, 9, 4);
            }
        }
    }

    private static void suppliedNodeHasTheEmptyEnvironment() {
        LazyKrivine x = Checks.fresh();
        int five = Checks.literal(x, 5);
        int zeroth = Checks.variable(x, 0);
        int inner = Checks.lambda(x, zeroth);
        int applied = Checks.apply(x, Checks.lambda(x, inner), five);
        int open = Checks.variable(x, 0);
        Checks.ends("the held function", x, x.start(applied, 100), LazyKrivine.FUNCTION, inner, 3);
        Checks.ends("promise 8: an open node", x, x.supply(open), LazyKrivine.UNBOUND, open, 6);
        refusedSupply(x, five);
    }

    private static void supplyMeetsFaults() {
        LazyKrivine x = Checks.fresh();
        int bomb = Checks.bomb(x);
        int zeroth = Checks.variable(x, 0);
        int identity = Checks.lambda(x, zeroth);
        int applied = Checks.apply(x, zeroth, bomb);
        int caller = Checks.lambda(x, applied);
        int sum = Checks.operator(x, LazyKrivine.ADD, zeroth, bomb);
        int adder = Checks.lambda(x, sum);
        int loop = Checks.recursive(x, zeroth);
        x.start(identity, 30);
        Checks.ends("promise 8: a fault", x, x.supply(bomb), LazyKrivine.ZERO_DIVISOR, bomb, 6);
        refusedSupply(x, 0);
        x.start(caller, 30);
        Checks.ends("promise 8: an integer to call", x, x.supply(0), LazyKrivine.NOT_FUNCTION, applied, 5);
        x.start(adder, 30);
        Checks.ends("promise 8: a function to add", x, x.supply(identity), LazyKrivine.NOT_INTEGER, sum, 5);
        x.start(identity, 30);
        Checks.ends("promise 8: a loop", x, x.supply(loop), LazyKrivine.EXHAUSTED, 0, 30);
    }

    private static void supplyTakesLaterNodes() {
        LazyKrivine x = Checks.fresh();
        int identity = Checks.lambda(x, Checks.variable(x, 0));
        x.start(identity, 100);
        refusedSupply(x, 2);
        int later = Checks.literal(x, 33);
        Checks.ends("promise 8: a later node", x, x.supply(later), LazyKrivine.INTEGER, 33, 4);
    }

    private static void demandNeedsABinding() {
        for (int outcome = LazyKrivine.IDLE; outcome <= LazyKrivine.ZERO_DIVISOR; outcome++) {
            LazyKrivine x = Outcomes.reached(outcome);
            for (int index : new int[] {MIN, -1, 1, 2, 31, 240, 241, MAX}) {
                refusedDemand(x, index);
            }
            if (outcome != LazyKrivine.FUNCTION) {
                refusedDemand(x, 0);
            }
        }
        LazyKrivine x = Checks.fresh();
        int closed = Checks.lambda(x, Checks.literal(x, 1));
        x.start(closed, 9);
        refusedDemand(x, 0);
    }

    /** Leaves a held function with the bindings 20, 10 and a session charge of 5. */
    private static LazyKrivine twoBindings(int allowance) {
        LazyKrivine x = Checks.fresh();
        int ten = Checks.literal(x, 10);
        int twenty = Checks.literal(x, 20);
        int third = Checks.lambda(x, ten);
        int outer = Checks.lambda(x, Checks.lambda(x, third));
        int applied = Checks.apply(x, Checks.apply(x, outer, ten), twenty);
        Checks.ends("two bindings", x, x.start(applied, allowance), LazyKrivine.FUNCTION, third, 5);
        return x;
    }

    private static void demandCostsOneMore() {
        LazyKrivine x = twoBindings(60);
        Checks.ends("promise 9: demand(0)", x, x.demand(0), LazyKrivine.INTEGER, 20, 7);
        Checks.due("promise 9: allowance()", x.allowance(), 60);
        refusedDemand(x, 0);
        refusedSupply(x, 0);
        x = twoBindings(60);
        Checks.ends("promise 9: demand(1)", x, x.demand(1), LazyKrivine.INTEGER, 10, 7);
        x = twoBindings(60);
        refusedDemand(x, 2);
    }

    private static void demandUsesTheBindingsEnvironment() {
        LazyKrivine x = Checks.fresh();
        int seven = Checks.literal(x, 7);
        int zeroth = Checks.variable(x, 0);
        int inner = Checks.lambda(x, seven);
        int call = Checks.apply(x, Checks.lambda(x, inner), zeroth);
        int applied = Checks.apply(x, Checks.lambda(x, call), seven);
        Checks.ends("promise 9: the start", x, x.start(applied, 99), LazyKrivine.FUNCTION, inner, 5);
        Checks.due("promise 14: captured(0)", x.captured(0), zeroth);
        Checks.due("promise 14: captured(1)", x.captured(1), seven);
        Checks.due("promise 14: captured(2)", x.captured(2), -1);
        Checks.ends("promise 9: a variable bound", x, x.demand(0), LazyKrivine.INTEGER, 7, 8);
    }

    private static void demandCanComeBack() {
        LazyKrivine x = Checks.fresh();
        int self = Checks.variable(x, 1);
        int function = Checks.lambda(x, self);
        int named = Checks.recursive(x, function);
        x.start(named, 240);
        for (int round = 1; round <= 79; round++) {
            int answer = x.demand(0);
            Checks.ends("promise 9: round " + round, x, answer, LazyKrivine.FUNCTION, function, 2 + 3 * round);
            Checks.due("promise 14: captured(0) in round " + round, x.captured(0), named);
            Checks.due("promise 14: captured(1) in round " + round, x.captured(1), -1);
        }
        Checks.ends("promise 9: one round too many", x, x.demand(0), LazyKrivine.EXHAUSTED, 0, 240);
        x.start(named, 240);
        for (int round = 1; round <= 59; round++) {
            int answer = x.supply(self);
            Checks.ends("promise 8: round " + round, x, answer, LazyKrivine.FUNCTION, function, 2 + 4 * round);
        }
        Checks.ends("promise 8: one round too many", x, x.supply(self), LazyKrivine.EXHAUSTED, 0, 240);
    }

    private static void demandIsExhausted() {
        for (int allowance = 5; allowance <= 9; allowance++) {
            LazyKrivine x = twoBindings(allowance);
            int answer = x.demand(1);
            if (allowance < 7) {
                Checks.ends("promise 9: within " + allowance, x, answer, LazyKrivine.EXHAUSTED, 0, allowance);
                Checks.due("promise 9: allowance() stays", x.allowance(), allowance);
                refusedDemand(x, 0);
                refusedSupply(x, 0);
            } else {
                Checks.ends("promise 9: within " + allowance, x, answer, LazyKrivine.INTEGER, 10, 7);
            }
        }
        LazyKrivine x = twoBindings(5);
        refusedDemand(x, 2);
        refusedSupply(x, -1);
    }

    private static void demandMeetsFaults() {
        LazyKrivine x = Checks.fresh();
        int bomb = Checks.bomb(x);
        int open = Checks.variable(x, 5);
        int wrongCall = Checks.apply(x, 0, 0);
        int inner = Checks.lambda(x, bomb);
        int wrongSum = Checks.operator(x, LazyKrivine.ADD, 0, inner);
        int outer = Checks.lambda(x, inner);
        int[][] rows = {
            {bomb, LazyKrivine.ZERO_DIVISOR, 7},
            {open, LazyKrivine.UNBOUND, 5},
            {wrongCall, LazyKrivine.NOT_FUNCTION, 6},
            {wrongSum, LazyKrivine.NOT_INTEGER, 7}};
        for (int[] row : rows) {
            x.start(outer, 40);
            x.supply(row[0]);
            Checks.due("promise 14: captured(0) is not evaluated", x.captured(0), row[0]);
            Checks.due("promise 12: charge() after supply", x.charge(), 3);
            Checks.ends("promise 9: fault of node " + row[0], x, x.demand(0), row[1], row[0], row[2]);
            refusedDemand(x, 0);
        }
        x.start(outer, 40);
        x.supply(outer);
        Checks.ends("promise 9: another function", x, x.demand(0), LazyKrivine.FUNCTION, outer, 5);
        Checks.due("promise 14: its bindings", x.captured(0), -1);
    }

    private static void sessionIsSeen() {
        String[] want = {
            Checks.session(LazyKrivine.IDLE, 0, 0, 0),
            Checks.session(LazyKrivine.INTEGER, 41, 1, 100),
            Checks.session(LazyKrivine.FUNCTION, 3, 2, 100),
            Checks.session(LazyKrivine.EXHAUSTED, 0, 100, 100),
            Checks.session(LazyKrivine.UNBOUND, 1, 1, 100),
            Checks.session(LazyKrivine.NOT_FUNCTION, 5, 2, 100),
            Checks.session(LazyKrivine.NOT_INTEGER, 6, 2, 100),
            Checks.session(LazyKrivine.ZERO_DIVISOR, 8, 3, 100)};
        for (int outcome = LazyKrivine.IDLE; outcome <= LazyKrivine.ZERO_DIVISOR; outcome++) {
            LazyKrivine x = Outcomes.reached(outcome);
            Checks.same("promises 10 to 13: outcome " + outcome, Checks.session(x), want[outcome]);
        }
    }

    private static void capturedOnlyOfAFunction() {
        for (int outcome = LazyKrivine.IDLE; outcome <= LazyKrivine.ZERO_DIVISOR; outcome++) {
            LazyKrivine x = Outcomes.reached(outcome);
            int held = outcome == LazyKrivine.FUNCTION ? 9 : -1;
            Checks.due("promise 14: captured(0) in outcome " + outcome, x.captured(0), held);
            for (int index : new int[] {MIN, -1, 1, 2, 31, 240, 241, MAX}) {
                Checks.due("promise 14: captured(" + index + ") in " + outcome, x.captured(index), -1);
            }
        }
    }

    private static void lookingChangesNothing() {
        for (int outcome = LazyKrivine.IDLE; outcome <= LazyKrivine.ZERO_DIVISOR; outcome++) {
            LazyKrivine x = Outcomes.reached(outcome);
            String before = Checks.state(x);
            Checks.same("promises 10 to 14: looking twice in " + outcome, Checks.state(x), before);
        }
    }
}
