/** Promise 7: the rules of EVAL, kind by kind. Above each test stands the sentence that it holds to. */
public final class EvaluationTest {
    private static final int MIN = Checks.MIN;
    private static final int MAX = Checks.MAX;

    public static void main(String[] args) {
        literals();
        theEmptyEnvironmentBindsNothing();
        variablesBeyondTheBindings();
        variablesBeyondThirtyOneBindings();
        variablesWithinTheBindings();
        argumentsKeepTheirEnvironment();
        lambdasAreNotEntered();
        recursivesNameThemselves();
        applications();
        argumentsAreNotEvaluatedHere();
        argumentsAreEvaluatedAnew();
        integersAreNotApplied();
        branchesOnOtherThanZero();
        branchesOnZero();
        branchesOnFunctions();
        functionsOnTheLeft();
        functionsOnTheRight();
        leftOperandComesFirst();
        additions();
        subtractions();
        multiplications();
        lesses();
        equals();
        quotients();
        quotientsOfTheLeastInt();
        quotientsByZero();
        nodesAreChargedEachTime();
        nestingHasNoLimit();
        faultsHoweverNested();
        nestingUntilExhausted();
        environmentsHaveNoLimit();
        oldEnvironmentsStay();
        longestEnvironment();
        Checks.finish();
    }

    /** "`LITERAL`: the value is the integer a." */
    private static void literals() {
        for (int integer : new int[] {MIN, MIN + 1, -1, 0, 1, 12345, MAX}) {
            LazyKrivine x = Checks.fresh();
            Checks.runs("literal " + integer, x, Checks.literal(x, integer), LazyKrivine.INTEGER, integer, 1);
        }
    }

    /** "The empty environment has no bindings." */
    private static void theEmptyEnvironmentBindsNothing() {
        LazyKrivine x = Checks.fresh();
        for (int index = 0; index <= 31; index++) {
            int node = Checks.variable(x, index);
            Checks.runs("variable " + index, x, node, LazyKrivine.UNBOUND, node, 1);
        }
    }

    /** Calls a body of one VARIABLE with the literals 100, 101, .., of which the last is binding 0. */
    private static int called(LazyKrivine x, int index, int bindings) {
        int function = Checks.variable(x, index);
        for (int level = 0; level < bindings; level++) {
            function = Checks.lambda(x, function);
        }
        for (int level = 0; level < bindings; level++) {
            function = Checks.apply(x, function, Checks.literal(x, 100 + level));
        }
        return function;
    }

    /** "if e has no binding a, stop with `UNBOUND` at n" */
    private static void variablesBeyondTheBindings() {
        for (int bindings = 0; bindings <= 10; bindings++) {
            for (int index : new int[] {bindings, bindings + 1, 30, 31}) {
                LazyKrivine x = Checks.fresh();
                int whole = called(x, index, bindings);
                String what = "binding " + index + " of " + bindings;
                Checks.runs(what, x, whole, LazyKrivine.UNBOUND, 0, 2 * bindings + 1);
            }
        }
    }

    private static int recursivesOver(LazyKrivine x, int node, int count) {
        int whole = node;
        for (int level = 0; level < count; level++) {
            whole = Checks.recursive(x, whole);
        }
        return whole;
    }

    /** The same for the longest environment that 32 nodes can make, and the greatest index. */
    private static void variablesBeyondThirtyOneBindings() {
        for (int count = 28; count <= 31; count++) {
            for (int index = 27; index <= 31; index++) {
                LazyKrivine x = Checks.fresh();
                int whole = recursivesOver(x, Checks.variable(x, index), count);
                String what = "binding " + index + " of " + count;
                if (index >= count) {
                    Checks.runs(what, x, whole, LazyKrivine.UNBOUND, 0, count + 1);
                } else {
                    Checks.runs(what, x, whole, LazyKrivine.EXHAUSTED, 0, 240);
                }
            }
        }
    }

    /** "binding 0 equal to s, and binding k + 1 equal to binding k of e" */
    private static void variablesWithinTheBindings() {
        for (int bindings = 1; bindings <= 10; bindings++) {
            for (int index = 0; index < bindings; index++) {
                LazyKrivine x = Checks.fresh();
                int whole = called(x, index, bindings);
                int integer = 100 + bindings - 1 - index;
                String what = "binding " + index + " of " + bindings;
                Checks.runs(what, x, whole, LazyKrivine.INTEGER, integer, 2 * bindings + 2);
            }
        }
    }

    /** "with (m, d) being binding a of e, the value is that of EVAL(m, d)" */
    private static void argumentsKeepTheirEnvironment() {
        LazyKrivine x = Checks.fresh();
        int ten = Checks.literal(x, 10);
        int one = Checks.literal(x, 1);
        int zeroth = Checks.variable(x, 0);
        int first = Checks.variable(x, 1);
        int difference = Checks.lambda(x, Checks.operator(x, LazyKrivine.SUBTRACT, zeroth, first));
        int next = Checks.operator(x, LazyKrivine.ADD, zeroth, one);
        int outer = Checks.lambda(x, Checks.apply(x, difference, next));
        Checks.runs("(n + 1) - n", x, Checks.apply(x, outer, ten), LazyKrivine.INTEGER, 1, 12);
        int open = Checks.variable(x, 0);
        int applied = Checks.apply(x, Checks.lambda(x, zeroth), open);
        Checks.runs("an open argument", x, applied, LazyKrivine.UNBOUND, open, 4);
    }

    /** "`LAMBDA`: the value is the function (n, e). The body is not evaluated." */
    private static void lambdasAreNotEntered() {
        LazyKrivine x = Checks.fresh();
        int bomb = Checks.bomb(x);
        int function = Checks.lambda(x, bomb);
        Checks.runs("a lambda", x, function, LazyKrivine.FUNCTION, function, 1);
        Checks.due("captured(0) of a closed lambda", x.captured(0), -1);
        int inner = Checks.apply(x, Checks.lambda(x, function), bomb);
        Checks.runs("an inner lambda", x, inner, LazyKrivine.FUNCTION, function, 3);
        Checks.due("captured(0) of an inner lambda", x.captured(0), bomb);
    }

    /** "The new binding names the `RECURSIVE` node n itself." */
    private static void recursivesNameThemselves() {
        LazyKrivine x = Checks.fresh();
        int five = Checks.literal(x, 5);
        Checks.runs("a recursive literal", x, Checks.recursive(x, five), LazyKrivine.INTEGER, 5, 2);
        int function = Checks.lambda(x, five);
        int named = Checks.recursive(x, function);
        Checks.runs("a recursive lambda", x, named, LazyKrivine.FUNCTION, function, 2);
        Checks.due("captured(0) is the RECURSIVE node", x.captured(0), named);
        Checks.due("captured(1) of one binding", x.captured(1), -1);
        Checks.ends("demand of the name", x, x.demand(0), LazyKrivine.FUNCTION, function, 5);
        Checks.due("captured(0) once more", x.captured(0), named);
        Checks.due("captured(1) once more", x.captured(1), -1);
        int loop = Checks.recursive(x, Checks.variable(x, 0));
        Checks.runs("a loop", x, loop, LazyKrivine.EXHAUSTED, 0, 240);
        int open = Checks.variable(x, 1);
        Checks.runs("a name too far", x, Checks.recursive(x, open), LazyKrivine.UNBOUND, open, 2);
    }

    /** "it is a function (m, d); with q being the body of m, the value is that of EVAL(q, d extended by (b, e))" */
    private static void applications() {
        LazyKrivine x = Checks.fresh();
        int one = Checks.literal(x, 1);
        int two = Checks.literal(x, 2);
        int identity = Checks.lambda(x, Checks.variable(x, 0));
        Checks.runs("identity", x, Checks.apply(x, identity, two), LazyKrivine.INTEGER, 2, 4);
        int selfApply = Checks.apply(x, identity, identity);
        Checks.runs("a function answered", x, selfApply, LazyKrivine.FUNCTION, identity, 4);
        Checks.due("captured(0) of the answered function", x.captured(0), -1);
        Checks.runs("applied twice", x, Checks.apply(x, selfApply, one), LazyKrivine.INTEGER, 1, 7);
        int zeroth = Checks.variable(x, 0);
        int omega = Checks.lambda(x, Checks.apply(x, zeroth, zeroth));
        Checks.runs("omega", x, Checks.apply(x, omega, omega), LazyKrivine.EXHAUSTED, 0, 240);
    }

    /** "the argument is not evaluated here" */
    private static void argumentsAreNotEvaluatedHere() {
        LazyKrivine x = Checks.fresh();
        int two = Checks.literal(x, 2);
        int bomb = Checks.bomb(x);
        int constant = Checks.lambda(x, two);
        int identity = Checks.lambda(x, Checks.variable(x, 0));
        Checks.runs("argument not asked for", x, Checks.apply(x, constant, bomb), LazyKrivine.INTEGER, 2, 3);
        Checks.runs("argument asked for", x, Checks.apply(x, identity, bomb), LazyKrivine.ZERO_DIVISOR, bomb, 6);
    }

    /** "but anew whenever a `VARIABLE` asks for it" */
    private static void argumentsAreEvaluatedAnew() {
        LazyKrivine x = Checks.fresh();
        int one = Checks.literal(x, 1);
        int sum = Checks.operator(x, LazyKrivine.ADD, one, one);
        int zeroth = Checks.variable(x, 0);
        int twice = Checks.operator(x, LazyKrivine.ADD, zeroth, zeroth);
        Checks.runs("asked twice", x, Checks.apply(x, Checks.lambda(x, twice), sum), LazyKrivine.INTEGER, 4, 11);
        int thrice = Checks.operator(x, LazyKrivine.ADD, twice, zeroth);
        Checks.runs("asked thrice", x, Checks.apply(x, Checks.lambda(x, thrice), sum), LazyKrivine.INTEGER, 6, 16);
    }

    /** "If its value is an integer, stop with `NOT_FUNCTION` at n." */
    private static void integersAreNotApplied() {
        for (int integer : new int[] {MIN, -1, 0, 1, 2, 31, MAX}) {
            LazyKrivine x = Checks.fresh();
            int bomb = Checks.bomb(x);
            int wrong = Checks.apply(x, Checks.literal(x, integer), bomb);
            Checks.runs(integer + " applied", x, wrong, LazyKrivine.NOT_FUNCTION, wrong, 2);
        }
    }

    /** "If it is not 0, the value is that of EVAL(b, e)" and "The other one is not evaluated." */
    private static void branchesOnOtherThanZero() {
        for (int integer : new int[] {MIN, MIN + 1, -256, -1, 1, 2, 256, 65536, MAX}) {
            LazyKrivine x = Checks.fresh();
            int bomb = Checks.bomb(x);
            int seven = Checks.literal(x, 7);
            int condition = Checks.literal(x, integer);
            int taken = Checks.branch(x, condition, seven, bomb);
            Checks.runs("branch on " + integer, x, taken, LazyKrivine.INTEGER, 7, 3);
            int faulty = Checks.branch(x, condition, bomb, seven);
            Checks.runs("branch to a fault on " + integer, x, faulty, LazyKrivine.ZERO_DIVISOR, bomb, 5);
        }
    }

    /** "if it is 0, that of EVAL(c, e)" */
    private static void branchesOnZero() {
        LazyKrivine x = Checks.fresh();
        int bomb = Checks.bomb(x);
        int zero = Checks.literal(x, 0);
        int seven = Checks.literal(x, 7);
        int function = Checks.lambda(x, bomb);
        Checks.runs("branch on 0", x, Checks.branch(x, zero, bomb, seven), LazyKrivine.INTEGER, 7, 3);
        Checks.runs("to a fault", x, Checks.branch(x, zero, seven, bomb), LazyKrivine.ZERO_DIVISOR, bomb, 5);
        Checks.runs("to a function", x, Checks.branch(x, zero, bomb, function), LazyKrivine.FUNCTION, function, 3);
        int asked = Checks.variable(x, 0);
        int body = Checks.lambda(x, Checks.branch(x, asked, bomb, asked));
        Checks.runs("in a body", x, Checks.apply(x, body, zero), LazyKrivine.INTEGER, 0, 7);
    }

    /** `BRANCH`: "If its value is a function, stop with `NOT_INTEGER` at n." */
    private static void branchesOnFunctions() {
        LazyKrivine x = Checks.fresh();
        int bomb = Checks.bomb(x);
        int function = Checks.lambda(x, bomb);
        int wrong = Checks.branch(x, function, bomb, bomb);
        Checks.runs("branch on a function", x, wrong, LazyKrivine.NOT_INTEGER, wrong, 2);
        int zero = Checks.literal(x, 0);
        int onFault = Checks.branch(x, bomb, zero, zero);
        Checks.runs("branch on a fault", x, onFault, LazyKrivine.ZERO_DIVISOR, bomb, 4);
    }

    /** "If its value is a function, stop with `NOT_INTEGER` at n, and b is not evaluated." */
    private static void functionsOnTheLeft() {
        for (int kind = LazyKrivine.ADD; kind <= LazyKrivine.EQUAL; kind++) {
            LazyKrivine x = Checks.fresh();
            int bomb = Checks.bomb(x);
            int function = Checks.lambda(x, bomb);
            for (int right : new int[] {bomb, function, 0}) {
                int node = Checks.operator(x, kind, function, right);
                Checks.runs("function left of kind " + kind, x, node, LazyKrivine.NOT_INTEGER, node, 2);
            }
        }
    }

    /** "Then EVAL(b, e). If its value is a function, stop with `NOT_INTEGER` at n.": also to the right of a 0. */
    private static void functionsOnTheRight() {
        for (int kind = LazyKrivine.ADD; kind <= LazyKrivine.EQUAL; kind++) {
            for (int integer : new int[] {MIN, -1, 0, 1, MAX}) {
                LazyKrivine x = Checks.fresh();
                int function = Checks.lambda(x, Checks.bomb(x));
                int node = Checks.operator(x, kind, Checks.literal(x, integer), function);
                Checks.runs("function right of kind " + kind, x, node, LazyKrivine.NOT_INTEGER, node, 3);
            }
        }
    }

    /** "first EVAL(a, e)" */
    private static void leftOperandComesFirst() {
        for (int kind = LazyKrivine.ADD; kind <= LazyKrivine.EQUAL; kind++) {
            LazyKrivine x = Checks.fresh();
            int bomb = Checks.bomb(x);
            int open = Checks.variable(x, 3);
            int bombFirst = Checks.operator(x, kind, bomb, open);
            Checks.runs("fault left of kind " + kind, x, bombFirst, LazyKrivine.ZERO_DIVISOR, bomb, 4);
            int openFirst = Checks.operator(x, kind, open, bomb);
            Checks.runs("unbound left of kind " + kind, x, openFirst, LazyKrivine.UNBOUND, open, 2);
            int openSecond = Checks.operator(x, kind, 0, open);
            Checks.runs("unbound right of kind " + kind, x, openSecond, LazyKrivine.UNBOUND, open, 3);
        }
    }

    private static void computes(int kind, int left, int right, int want) {
        LazyKrivine x = Checks.fresh();
        int l = Checks.literal(x, left);
        int r = Checks.literal(x, right);
        int node = Checks.operator(x, kind, l, r);
        Checks.runs("kind " + kind + " on " + left + " and " + right, x, node, LazyKrivine.INTEGER, want, 3);
    }

    /** "`ADD`: l + r, wrapping as Java int arithmetic does" */
    private static void additions() {
        computes(LazyKrivine.ADD, 2, 3, 5);
        computes(LazyKrivine.ADD, MAX, 0, MAX);
        computes(LazyKrivine.ADD, MAX, 1, MIN);
        computes(LazyKrivine.ADD, 1, MAX, MIN);
        computes(LazyKrivine.ADD, MAX, MAX, -2);
        computes(LazyKrivine.ADD, MIN, 0, MIN);
        computes(LazyKrivine.ADD, MIN, -1, MAX);
        computes(LazyKrivine.ADD, MIN, MIN, 0);
        computes(LazyKrivine.ADD, MIN, MAX, -1);
    }

    /** "`SUBTRACT`: l - r, wrapping likewise" */
    private static void subtractions() {
        computes(LazyKrivine.SUBTRACT, 2, 3, -1);
        computes(LazyKrivine.SUBTRACT, MIN, 0, MIN);
        computes(LazyKrivine.SUBTRACT, MIN, 1, MAX);
        computes(LazyKrivine.SUBTRACT, 0, MIN, MIN);
        computes(LazyKrivine.SUBTRACT, -1, MIN, MAX);
        computes(LazyKrivine.SUBTRACT, MAX, -1, MIN);
        computes(LazyKrivine.SUBTRACT, MAX, MIN, -1);
        computes(LazyKrivine.SUBTRACT, MIN, MAX, 1);
        computes(LazyKrivine.SUBTRACT, MIN, MIN, 0);
    }

    /** "`MULTIPLY`: l * r, wrapping likewise" */
    private static void multiplications() {
        computes(LazyKrivine.MULTIPLY, -4, 6, -24);
        computes(LazyKrivine.MULTIPLY, 0, MIN, 0);
        computes(LazyKrivine.MULTIPLY, 65536, 65536, 0);
        computes(LazyKrivine.MULTIPLY, 65536, 32768, MIN);
        computes(LazyKrivine.MULTIPLY, 65535, 65537, -1);
        computes(LazyKrivine.MULTIPLY, MIN, -1, MIN);
        computes(LazyKrivine.MULTIPLY, MIN, 2, 0);
        computes(LazyKrivine.MULTIPLY, MIN, MIN, 0);
        computes(LazyKrivine.MULTIPLY, MAX, -1, -MAX);
        computes(LazyKrivine.MULTIPLY, MAX, MAX, 1);
        computes(LazyKrivine.MULTIPLY, MAX, MIN, MIN);
        computes(LazyKrivine.MULTIPLY, 46341, 46341, -2147479015);
    }

    /** "`LESS`: 1 if l < r (signed), else 0" */
    private static void lesses() {
        computes(LazyKrivine.LESS, 1, 2, 1);
        computes(LazyKrivine.LESS, 2, 2, 0);
        computes(LazyKrivine.LESS, 2, 1, 0);
        computes(LazyKrivine.LESS, -1, 0, 1);
        computes(LazyKrivine.LESS, 0, -1, 0);
        computes(LazyKrivine.LESS, -2, -1, 1);
        computes(LazyKrivine.LESS, MIN, MAX, 1);
        computes(LazyKrivine.LESS, MAX, MIN, 0);
        computes(LazyKrivine.LESS, MIN, MIN, 0);
        computes(LazyKrivine.LESS, MIN, MIN + 1, 1);
        computes(LazyKrivine.LESS, MIN, 1, 1);
        computes(LazyKrivine.LESS, 1, MIN, 0);
        computes(LazyKrivine.LESS, MAX - 1, MAX, 1);
        computes(LazyKrivine.LESS, MAX, MAX, 0);
    }

    /** "`EQUAL`: 1 if l == r, else 0" */
    private static void equals() {
        computes(LazyKrivine.EQUAL, 2, 2, 1);
        computes(LazyKrivine.EQUAL, 2, 3, 0);
        computes(LazyKrivine.EQUAL, 0, 0, 1);
        computes(LazyKrivine.EQUAL, 1, -1, 0);
        computes(LazyKrivine.EQUAL, MIN, MIN, 1);
        computes(LazyKrivine.EQUAL, MIN, MAX, 0);
        computes(LazyKrivine.EQUAL, MIN, 0, 0);
        computes(LazyKrivine.EQUAL, 65536, 0, 0);
        computes(LazyKrivine.EQUAL, MAX, MAX, 1);
    }

    /** "otherwise l / r, rounded towards zero" */
    private static void quotients() {
        computes(LazyKrivine.QUOTIENT, 7, 2, 3);
        computes(LazyKrivine.QUOTIENT, -7, 2, -3);
        computes(LazyKrivine.QUOTIENT, 7, -2, -3);
        computes(LazyKrivine.QUOTIENT, -7, -2, 3);
        computes(LazyKrivine.QUOTIENT, 1, 2, 0);
        computes(LazyKrivine.QUOTIENT, -1, 2, 0);
        computes(LazyKrivine.QUOTIENT, 0, 5, 0);
        computes(LazyKrivine.QUOTIENT, 0, -1, 0);
        computes(LazyKrivine.QUOTIENT, MAX, -1, -MAX);
        computes(LazyKrivine.QUOTIENT, MAX, MAX, 1);
        computes(LazyKrivine.QUOTIENT, MAX, MIN, 0);
        computes(LazyKrivine.QUOTIENT, -MAX, 2, -1073741823);
    }

    /** "the least int divided by -1 giving the least int" */
    private static void quotientsOfTheLeastInt() {
        computes(LazyKrivine.QUOTIENT, MIN, -1, MIN);
        computes(LazyKrivine.QUOTIENT, MIN, 1, MIN);
        computes(LazyKrivine.QUOTIENT, MIN, MIN, 1);
        computes(LazyKrivine.QUOTIENT, MIN, 2, -1073741824);
        computes(LazyKrivine.QUOTIENT, MIN, -2, 1073741824);
        computes(LazyKrivine.QUOTIENT, MIN, MAX, -1);
        computes(LazyKrivine.QUOTIENT, MIN + 1, -1, MAX);
    }

    /** "`QUOTIENT`: if r is 0, stop with `ZERO_DIVISOR` at n" */
    private static void quotientsByZero() {
        for (int left : new int[] {MIN, -1, 0, 1, MAX}) {
            LazyKrivine x = Checks.fresh();
            int l = Checks.literal(x, left);
            int node = Checks.operator(x, LazyKrivine.QUOTIENT, l, Checks.literal(x, 0));
            Checks.runs(left + " by 0", x, node, LazyKrivine.ZERO_DIVISOR, node, 3);
        }
    }

    /** "again for every time that a node is evaluated" */
    private static void nodesAreChargedEachTime() {
        LazyKrivine x = Checks.fresh();
        int node = Checks.literal(x, 1);
        int charge = 1;
        for (int level = 0; level < 6; level++) {
            node = Checks.operator(x, LazyKrivine.ADD, node, node);
            charge = 2 * charge + 1;
            Checks.runs("one child shared", x, node, LazyKrivine.INTEGER, 2 << level, charge);
        }
    }

    /** A function that adds 1 so often, each ADD waiting for the one within it; node 0 is 1, node 1 its argument. */
    private static int counting(LazyKrivine x, int times) {
        int one = Checks.literal(x, 1);
        int node = Checks.variable(x, 0);
        for (int level = 0; level < times; level++) {
            node = Checks.operator(x, LazyKrivine.ADD, node, one);
        }
        return Checks.lambda(x, node);
    }

    /** "There is no limit on nesting" */
    private static void nestingHasNoLimit() {
        LazyKrivine x = Checks.fresh();
        int function = counting(x, 22);
        int whole = 0;
        for (int round = 1; round <= 5; round++) {
            whole = Checks.apply(x, function, whole);
            Checks.runs("nesting " + round, x, whole, LazyKrivine.INTEGER, 1 + 22 * round, 1 + 47 * round);
        }
    }

    private static void faultsHoweverNested() {
        LazyKrivine x = Checks.fresh();
        int function = counting(x, 18);
        int open = 1;
        int whole = open;
        for (int round = 1; round <= 11; round++) {
            whole = Checks.apply(x, function, whole);
            Checks.runs(18 * round + " waiting", x, whole, LazyKrivine.UNBOUND, open, 1 + 21 * round);
        }
    }

    private static void nestingUntilExhausted() {
        for (int kind = LazyKrivine.APPLY; kind <= LazyKrivine.EQUAL; kind++) {
            LazyKrivine x = Checks.fresh();
            int node = Checks.variable(x, 0);
            for (int level = 0; level < 30; level++) {
                node = x.add(kind, node, 0, 0);
            }
            node = Checks.recursive(x, node);
            Checks.runs("deep nesting of kind " + kind, x, node, LazyKrivine.EXHAUSTED, 0, 240);
        }
    }

    /** ".. on the length of environments or on their number besides the allowance" */
    private static void environmentsHaveNoLimit() {
        LazyKrivine x = Checks.fresh();
        int whole = recursivesOver(x, Checks.variable(x, 30), 31);
        for (int round = 0; round < 3; round++) {
            Checks.runs("an environment at nearly every charge", x, whole, LazyKrivine.EXHAUSTED, 0, 240);
        }
    }

    /** The first environment is asked for again when there are more than two hundred others. */
    private static void oldEnvironmentsStay() {
        LazyKrivine x = Checks.fresh();
        int one = Checks.literal(x, 1);
        int chain = recursivesOver(x, one, 24);
        int node = chain;
        for (int level = 0; level < 3; level++) {
            node = Checks.operator(x, LazyKrivine.ADD, node, node);
        }
        int nine = Checks.operator(x, LazyKrivine.ADD, node, chain);
        int sum = Checks.operator(x, LazyKrivine.ADD, nine, Checks.variable(x, 0));
        int function = Checks.lambda(x, sum);
        x.start(function, 240);
        Checks.ends("216 other environments", x, x.supply(one), LazyKrivine.INTEGER, 10, 238);
    }

    private static void longestEnvironment() {
        LazyKrivine x = Checks.fresh();
        int whole = recursivesOver(x, Checks.lambda(x, Checks.variable(x, 30)), 30);
        Checks.runs("thirty bindings", x, whole, LazyKrivine.FUNCTION, 1, 31);
        for (int index = 0; index < 30; index++) {
            Checks.due("promise 14: captured(" + index + ")", x.captured(index), index + 2);
        }
        Checks.due("promise 14: captured(30)", x.captured(30), -1);
        Checks.due("promise 9: demand(30)", x.demand(30), LazyKrivine.REFUSED);
        int answer = x.demand(29);
        Checks.ends("promise 9: the outermost binding", x, answer, LazyKrivine.FUNCTION, 1, 63);
        answer = x.supply(31);
        Checks.ends("promise 8: body reaching the outermost", x, answer, LazyKrivine.FUNCTION, 1, 96);
    }
}
