/** Promise 7: starting a session, the rules of EVAL and what each costs. */
public final class EvaluationTest {
    private static final int MIN = Integer.MIN_VALUE;
    private static final int MAX = Integer.MAX_VALUE;

    public static void main(String[] args) {
        absentNodesAreRefused();
        allowanceIsClamped();
        startForgetsTheFormerSession();
        literals();
        unboundVariables();
        lambdasAreNotEntered();
        recursives();
        applications();
        argumentsKeepTheirEnvironment();
        branches();
        arithmetic();
        quotients();
        comparisons();
        operatorsOnFunctions();
        leftOperandComesFirst();
        exhaustionIsExact();
        faultAtTheLastCharge();
        deepNesting();
        manyEnvironments();
        longestEnvironment();
        Checks.finish();
    }

    private static void absentNodesAreRefused() {
        for (int outcome = LazyKrivine.IDLE; outcome <= LazyKrivine.ZERO_DIVISOR; outcome++) {
            LazyKrivine x = Outcomes.reached(outcome);
            String before = Checks.state(x);
            for (int absent : new int[] {MIN, -1, x.size(), 32, MAX}) {
                Checks.due("start(" + absent + ", 9)", x.start(absent, 9), LazyKrivine.REFUSED);
                Checks.same("start(" + absent + ", 9) changes nothing", Checks.state(x), before);
            }
        }
    }

    private static void allowanceIsClamped() {
        int[][] rows = {{MIN, 1}, {-1, 1}, {0, 1}, {1, 1}, {2, 2}, {49, 49}, {50, 50}, {51, 50}, {MAX, 50}};
        LazyKrivine x = new LazyKrivine(8, 50);
        int loop = Checks.recursive(x, Checks.variable(x, 0));
        for (int[] row : rows) {
            int answer = x.start(loop, row[0]);
            Checks.ends("start(loop, " + row[0] + ")", x, answer, LazyKrivine.EXHAUSTED, 0, row[1]);
            Checks.due("allowance() for " + row[0], x.allowance(), row[1]);
        }
    }

    private static void startForgetsTheFormerSession() {
        for (int outcome = LazyKrivine.IDLE; outcome <= LazyKrivine.ZERO_DIVISOR; outcome++) {
            LazyKrivine x = Outcomes.reached(outcome);
            int answer = x.start(0, 7);
            Checks.ends("a literal after outcome " + outcome, x, answer, LazyKrivine.INTEGER, 41, 1);
            Checks.due("allowance() after outcome " + outcome, x.allowance(), 7);
            Checks.due("supply(0) after outcome " + outcome, x.supply(0), -1);
            Checks.due("demand(0) after outcome " + outcome, x.demand(0), -1);
            answer = x.start(3, 5);
            Checks.ends("a function after outcome " + outcome, x, answer, LazyKrivine.FUNCTION, 3, 1);
            Checks.due("captured(0) after outcome " + outcome, x.captured(0), -1);
        }
    }

    private static void literals() {
        for (int integer : new int[] {MIN, -1, 0, 1, 12345, MAX}) {
            LazyKrivine x = Checks.fresh();
            Checks.runs("literal " + integer, x, Checks.literal(x, integer), LazyKrivine.INTEGER, integer, 1);
        }
    }

    private static void unboundVariables() {
        LazyKrivine x = Checks.fresh();
        Checks.literal(x, 6);
        for (int index : new int[] {0, 1, 31}) {
            int node = Checks.variable(x, index);
            Checks.runs("variable " + index, x, node, LazyKrivine.UNBOUND, node, 1);
        }
        int second = Checks.variable(x, 1);
        int applied = Checks.apply(x, Checks.lambda(x, second), 0);
        Checks.runs("one past the bindings", x, applied, LazyKrivine.UNBOUND, second, 3);
    }

    private static void lambdasAreNotEntered() {
        LazyKrivine x = Checks.fresh();
        int bomb = Checks.bomb(x);
        int function = Checks.lambda(x, bomb);
        Checks.runs("a lambda", x, function, LazyKrivine.FUNCTION, function, 1);
        Checks.due("captured(0) of a closed lambda", x.captured(0), -1);
    }

    private static void recursives() {
        LazyKrivine x = Checks.fresh();
        int five = Checks.literal(x, 5);
        int plain = Checks.recursive(x, five);
        Checks.runs("a recursive literal", x, plain, LazyKrivine.INTEGER, 5, 2);
        int function = Checks.lambda(x, five);
        int named = Checks.recursive(x, function);
        Checks.runs("a recursive lambda", x, named, LazyKrivine.FUNCTION, function, 2);
        Checks.due("the binding names the RECURSIVE node", x.captured(0), named);
        Checks.due("there is one binding", x.captured(1), -1);
        int loop = Checks.recursive(x, Checks.variable(x, 0));
        Checks.runs("a loop", x, loop, LazyKrivine.EXHAUSTED, 0, 240);
        int open = Checks.variable(x, 1);
        Checks.runs("a name too far", x, Checks.recursive(x, open), LazyKrivine.UNBOUND, open, 2);
    }

    private static void applications() {
        LazyKrivine x = Checks.fresh();
        int one = Checks.literal(x, 1);
        int two = Checks.literal(x, 2);
        int zeroth = Checks.variable(x, 0);
        int identity = Checks.lambda(x, zeroth);
        Checks.runs("identity", x, Checks.apply(x, identity, two), LazyKrivine.INTEGER, 2, 4);
        int sum = Checks.operator(x, LazyKrivine.ADD, one, two);
        int twice = Checks.lambda(x, Checks.operator(x, LazyKrivine.ADD, zeroth, zeroth));
        Checks.runs("argument anew", x, Checks.apply(x, twice, sum), LazyKrivine.INTEGER, 6, 11);
        int bomb = Checks.bomb(x);
        int constant = Checks.lambda(x, two);
        Checks.runs("argument not asked for", x, Checks.apply(x, constant, bomb), LazyKrivine.INTEGER, 2, 3);
        Checks.runs("argument asked for", x, Checks.apply(x, identity, bomb), LazyKrivine.ZERO_DIVISOR, bomb, 6);
        int wrong = Checks.apply(x, sum, bomb);
        Checks.runs("an integer applied", x, wrong, LazyKrivine.NOT_FUNCTION, wrong, 4);
        int selfApply = Checks.apply(x, identity, identity);
        Checks.runs("a function answered", x, selfApply, LazyKrivine.FUNCTION, identity, 4);
        Checks.due("bindings of the answered function", x.captured(0), -1);
        Checks.runs("applied twice", x, Checks.apply(x, selfApply, one), LazyKrivine.INTEGER, 1, 7);
        int omega = Checks.lambda(x, Checks.apply(x, zeroth, zeroth));
        Checks.runs("omega", x, Checks.apply(x, omega, omega), LazyKrivine.EXHAUSTED, 0, 240);
    }

    private static void argumentsKeepTheirEnvironment() {
        LazyKrivine x = Checks.fresh();
        int ten = Checks.literal(x, 10);
        int one = Checks.literal(x, 1);
        int zeroth = Checks.variable(x, 0);
        int first = Checks.variable(x, 1);
        int difference = Checks.lambda(x, Checks.operator(x, LazyKrivine.SUBTRACT, zeroth, first));
        int next = Checks.operator(x, LazyKrivine.ADD, zeroth, one);
        int outer = Checks.lambda(x, Checks.apply(x, difference, next));
        Checks.runs("(n + 1) - n", x, Checks.apply(x, outer, ten), LazyKrivine.INTEGER, 1, 12);
        int open = Checks.variable(x, 0);
        int applied = Checks.apply(x, Checks.lambda(x, zeroth), open);
        Checks.runs("an open argument", x, applied, LazyKrivine.UNBOUND, open, 4);
        int pick = Checks.lambda(x, Checks.lambda(x, first));
        int picked = Checks.apply(x, Checks.apply(x, pick, ten), one);
        Checks.runs("the outer of two", x, picked, LazyKrivine.INTEGER, 10, 6);
    }

    private static void branches() {
        LazyKrivine x = Checks.fresh();
        int bomb = Checks.bomb(x);
        int zero = Checks.literal(x, 0);
        int seven = Checks.literal(x, 7);
        for (int integer : new int[] {MIN, -1, 1, 256, MAX}) {
            int node = Checks.branch(x, Checks.literal(x, integer), seven, bomb);
            Checks.runs("branch on " + integer, x, node, LazyKrivine.INTEGER, 7, 3);
        }
        Checks.runs("branch on 0", x, Checks.branch(x, zero, bomb, seven), LazyKrivine.INTEGER, 7, 3);
        int function = Checks.lambda(x, seven);
        int wrong = Checks.branch(x, function, bomb, bomb);
        Checks.runs("branch on a function", x, wrong, LazyKrivine.NOT_INTEGER, wrong, 2);
        int chosen = Checks.branch(x, seven, function, bomb);
        Checks.runs("branch to a function", x, chosen, LazyKrivine.FUNCTION, function, 3);
        Checks.runs("branch on a fault", x, Checks.branch(x, bomb, zero, zero), LazyKrivine.ZERO_DIVISOR, bomb, 4);
        int inner = Checks.variable(x, 0);
        int body = Checks.branch(x, inner, inner, seven);
        Checks.runs("branch in a body", x, Checks.apply(x, Checks.lambda(x, body), seven), LazyKrivine.INTEGER, 7, 7);
    }

    private static void computes(int kind, int left, int right, int want) {
        LazyKrivine x = Checks.fresh();
        int l = Checks.literal(x, left);
        int r = Checks.literal(x, right);
        int node = Checks.operator(x, kind, l, r);
        Checks.runs("kind " + kind + " on " + left + " and " + right, x, node, LazyKrivine.INTEGER, want, 3);
    }

    private static void arithmetic() {
        computes(LazyKrivine.ADD, 2, 3, 5);
        computes(LazyKrivine.ADD, MAX, 1, MIN);
        computes(LazyKrivine.ADD, MIN, -1, MAX);
        computes(LazyKrivine.ADD, MIN, MIN, 0);
        computes(LazyKrivine.SUBTRACT, 2, 3, -1);
        computes(LazyKrivine.SUBTRACT, MIN, 1, MAX);
        computes(LazyKrivine.SUBTRACT, 0, MIN, MIN);
        computes(LazyKrivine.SUBTRACT, MAX, -1, MIN);
        computes(LazyKrivine.MULTIPLY, -4, 6, -24);
        computes(LazyKrivine.MULTIPLY, 65536, 65536, 0);
        computes(LazyKrivine.MULTIPLY, MIN, -1, MIN);
        computes(LazyKrivine.MULTIPLY, MAX, MAX, 1);
        computes(LazyKrivine.MULTIPLY, 46341, 46341, -2147479015);
    }

    private static void quotients() {
        computes(LazyKrivine.QUOTIENT, 7, 2, 3);
        computes(LazyKrivine.QUOTIENT, -7, 2, -3);
        computes(LazyKrivine.QUOTIENT, 7, -2, -3);
        computes(LazyKrivine.QUOTIENT, -7, -2, 3);
        computes(LazyKrivine.QUOTIENT, 1, 2, 0);
        computes(LazyKrivine.QUOTIENT, -1, 2, 0);
        computes(LazyKrivine.QUOTIENT, 0, 5, 0);
        computes(LazyKrivine.QUOTIENT, MIN, -1, MIN);
        computes(LazyKrivine.QUOTIENT, MIN, 1, MIN);
        computes(LazyKrivine.QUOTIENT, MAX, -1, -MAX);
        computes(LazyKrivine.QUOTIENT, MAX, MIN, 0);
        for (int left : new int[] {MIN, -1, 0, 1, MAX}) {
            LazyKrivine x = Checks.fresh();
            int l = Checks.literal(x, left);
            int zero = Checks.literal(x, 0);
            int node = Checks.operator(x, LazyKrivine.QUOTIENT, l, zero);
            Checks.runs(left + " by 0", x, node, LazyKrivine.ZERO_DIVISOR, node, 3);
        }
    }

    private static void comparisons() {
        computes(LazyKrivine.LESS, 1, 2, 1);
        computes(LazyKrivine.LESS, 2, 2, 0);
        computes(LazyKrivine.LESS, 2, 1, 0);
        computes(LazyKrivine.LESS, MIN, MAX, 1);
        computes(LazyKrivine.LESS, MAX, MIN, 0);
        computes(LazyKrivine.LESS, -1, 0, 1);
        computes(LazyKrivine.EQUAL, 2, 2, 1);
        computes(LazyKrivine.EQUAL, 2, 3, 0);
        computes(LazyKrivine.EQUAL, MIN, MIN, 1);
        computes(LazyKrivine.EQUAL, MIN, MAX, 0);
        computes(LazyKrivine.EQUAL, 1000000, 1000000, 1);
    }

    private static void operatorsOnFunctions() {
        for (int kind = LazyKrivine.ADD; kind <= LazyKrivine.EQUAL; kind++) {
            LazyKrivine x = Checks.fresh();
            int bomb = Checks.bomb(x);
            int function = Checks.lambda(x, bomb);
            int left = Checks.operator(x, kind, function, bomb);
            Checks.runs("function left of kind " + kind, x, left, LazyKrivine.NOT_INTEGER, left, 2);
            int right = Checks.operator(x, kind, Checks.literal(x, 0), function);
            Checks.runs("function right of kind " + kind, x, right, LazyKrivine.NOT_INTEGER, right, 3);
        }
    }

    private static void leftOperandComesFirst() {
        for (int kind = LazyKrivine.ADD; kind <= LazyKrivine.EQUAL; kind++) {
            LazyKrivine x = Checks.fresh();
            int bomb = Checks.bomb(x);
            int open = Checks.variable(x, 3);
            int bombFirst = Checks.operator(x, kind, bomb, open);
            Checks.runs("fault left of kind " + kind, x, bombFirst, LazyKrivine.ZERO_DIVISOR, bomb, 4);
            int openFirst = Checks.operator(x, kind, open, bomb);
            Checks.runs("unbound left of kind " + kind, x, openFirst, LazyKrivine.UNBOUND, open, 2);
        }
    }

    private static int factorialOf(LazyKrivine x, int integer) {
        int zeroth = Checks.variable(x, 0);
        int self = Checks.variable(x, 1);
        int one = Checks.literal(x, 1);
        int less = Checks.operator(x, LazyKrivine.SUBTRACT, zeroth, one);
        int product = Checks.operator(x, LazyKrivine.MULTIPLY, zeroth, Checks.apply(x, self, less));
        int body = Checks.branch(x, zeroth, product, one);
        int factorial = Checks.recursive(x, Checks.lambda(x, body));
        return Checks.apply(x, factorial, Checks.literal(x, integer));
    }

    private static void exhaustionIsExact() {
        LazyKrivine x = Checks.fresh();
        int node = factorialOf(x, 5);
        for (int allowance = 1; allowance <= 240; allowance++) {
            int answer = x.start(node, allowance);
            if (allowance < 132) {
                Checks.ends("5! within " + allowance, x, answer, LazyKrivine.EXHAUSTED, 0, allowance);
            } else {
                Checks.ends("5! within " + allowance, x, answer, LazyKrivine.INTEGER, 120, 132);
            }
            Checks.due("allowance() of 5!", x.allowance(), allowance);
        }
    }

    private static void faultAtTheLastCharge() {
        LazyKrivine x = Checks.fresh();
        int bomb = Checks.bomb(x);
        Checks.ends("fault within 3", x, x.start(bomb, 3), LazyKrivine.ZERO_DIVISOR, bomb, 3);
        Checks.ends("fault within 2", x, x.start(bomb, 2), LazyKrivine.EXHAUSTED, 0, 2);
        Checks.ends("fault within 1", x, x.start(bomb, 1), LazyKrivine.EXHAUSTED, 0, 1);
        int open = Checks.variable(x, 0);
        Checks.ends("unbound within 1", x, x.start(open, 1), LazyKrivine.UNBOUND, open, 1);
        int function = Checks.lambda(x, bomb);
        Checks.ends("function within 1", x, x.start(function, 1), LazyKrivine.FUNCTION, function, 1);
        int applied = Checks.apply(x, 0, 0);
        Checks.ends("misapplied within 2", x, x.start(applied, 2), LazyKrivine.NOT_FUNCTION, applied, 2);
        int added = Checks.operator(x, LazyKrivine.ADD, function, bomb);
        Checks.ends("misadded within 2", x, x.start(added, 2), LazyKrivine.NOT_INTEGER, added, 2);
    }

    private static void deepNesting() {
        int[] nested = {LazyKrivine.APPLY, LazyKrivine.ADD, LazyKrivine.EQUAL, LazyKrivine.BRANCH};
        for (int kind : nested) {
            LazyKrivine x = Checks.fresh();
            int node = Checks.variable(x, 0);
            for (int level = 0; level < 30; level++) {
                node = x.add(kind, node, 0, 0);
            }
            node = Checks.recursive(x, node);
            Checks.runs("deep nesting of kind " + kind, x, node, LazyKrivine.EXHAUSTED, 0, 240);
        }
        LazyKrivine x = Checks.fresh();
        int node = Checks.literal(x, 1);
        for (int level = 0; level < 6; level++) {
            node = Checks.operator(x, LazyKrivine.ADD, node, node);
        }
        Checks.runs("one child shared", x, node, LazyKrivine.INTEGER, 64, 127);
    }

    private static void manyEnvironments() {
        LazyKrivine x = Checks.fresh();
        int node = Checks.variable(x, 30);
        for (int level = 0; level < 31; level++) {
            node = Checks.recursive(x, node);
        }
        for (int round = 0; round < 3; round++) {
            Checks.runs("an environment at nearly every charge", x, node, LazyKrivine.EXHAUSTED, 0, 240);
        }
    }

    private static void longestEnvironment() {
        LazyKrivine x = Checks.fresh();
        int node = Checks.lambda(x, Checks.variable(x, 30));
        for (int level = 0; level < 30; level++) {
            node = Checks.recursive(x, node);
        }
        Checks.runs("thirty bindings", x, node, LazyKrivine.FUNCTION, 1, 31);
        for (int index = 0; index < 30; index++) {
            Checks.due("promise 14: captured(" + index + ")", x.captured(index), index + 2);
        }
        Checks.due("promise 14: captured(30)", x.captured(30), -1);
        Checks.due("promise 9: demand(30)", x.demand(30), LazyKrivine.REFUSED);
        int answer = x.demand(29);
        Checks.ends("promise 9: the outermost binding", x, answer, LazyKrivine.FUNCTION, 1, 63);
        answer = x.supply(31);
        Checks.ends("promise 8: body reaching the outermost", x, answer, LazyKrivine.FUNCTION, 1, 96);
    }
}
