/** Promise 7 without the rules of the kinds: start, the allowance, stopping and taking a value. */
public final class StartTest {
    private static final int MIN = Checks.MIN;
    private static final int MAX = Checks.MAX;
    private static final int LEVELS = 8;
    private static final int WAYS_TO_NEST = 8;

    public static void main(String[] args) {
        absentNodesAreRefused();
        lowAllowancesCountAsOne();
        highAllowancesCountAsTheLimit();
        otherAllowancesCount();
        nothingOfTheFormerSessionRemains();
        theAnswerIsTheOutcome();
        nodesStay();
        noNodeIsEvaluatedBeyondTheAllowance();
        exhaustionComesAtEveryCharge();
        reachingTheAllowanceIsNotExhaustion();
        reachingTheLimitIsNotExhaustion();
        stopsHoweverDeep();
        stopsAtTheFaultyNode();
        takesIntegers();
        takesFunctions();
        Checks.finish();
    }

    /** "answers `REFUSED` and changes nothing if the node does not exist" */
    private static void absentNodesAreRefused() {
        for (int state = 0; state < States.COUNT; state++) {
            int made = state;
            int size = States.make(state).size();
            for (int absent : new int[] {MIN, -32, -1, size, size + 1, 32, 33, MAX}) {
                for (int allowance : new int[] {MIN, 0, 9, MAX}) {
                    String what = "start(" + absent + ", " + allowance + ") when " + States.name(state);
                    Twins.refuses(what, () -> States.make(made), x -> x.start(absent, allowance));
                }
            }
        }
    }

    private static void allowed(LazyKrivine x, int wanted, int want) {
        int loop = 1;
        String what = "start(loop, " + wanted + ")";
        Checks.ends(what, x, x.start(loop, wanted), LazyKrivine.EXHAUSTED, 0, want);
        Checks.due(what + " allowance()", x.allowance(), want);
    }

    private static LazyKrivine looping(int limit) {
        LazyKrivine x = new LazyKrivine(8, limit);
        Checks.recursive(x, Checks.variable(x, 0));
        return x;
    }

    /** "anything below 1 counts as 1" */
    private static void lowAllowancesCountAsOne() {
        for (int limit : new int[] {MIN, 16, 50, 240, MAX}) {
            LazyKrivine x = looping(limit);
            for (int wanted = -300; wanted < 1; wanted++) {
                allowed(x, wanted, 1);
            }
            allowed(x, MIN, 1);
        }
    }

    /** "anything above limit counts as limit", and "with limit as clamped by the constructor" */
    private static void highAllowancesCountAsTheLimit() {
        int[][] limits = {
            {MIN, 16}, {15, 16}, {16, 16}, {17, 17}, {50, 50}, {239, 239}, {240, 240}, {241, 240}, {MAX, 240}};
        for (int[] limit : limits) {
            LazyKrivine x = looping(limit[0]);
            for (int wanted = limit[1] + 1; wanted <= 300; wanted++) {
                allowed(x, wanted, limit[1]);
            }
            allowed(x, MAX, limit[1]);
        }
    }

    /** "its allowance is the argument clamped to 1..limit" */
    private static void otherAllowancesCount() {
        for (int limit : new int[] {16, 50, 240}) {
            LazyKrivine x = looping(limit);
            for (int wanted = 1; wanted <= limit; wanted++) {
                allowed(x, wanted, wanted);
            }
        }
    }

    private static LazyKrivine started(LazyKrivine x, int node, int allowance) {
        x.start(node, allowance);
        return x;
    }

    /** "whatever the session was, a new one begins: its charge is 0", and "Nothing of the former session remains." */
    private static void nothingOfTheFormerSessionRemains() {
        for (int outcome = LazyKrivine.IDLE; outcome <= LazyKrivine.ZERO_DIVISOR; outcome++) {
            int former = outcome;
            for (int node = 0; node < 10; node++) {
                int begun = node;
                String what = "start(" + node + ", 7) when " + States.name(outcome);
                Twins.alike(what, () -> started(States.make(former), begun, 7),
                    () -> started(States.make(LazyKrivine.IDLE), begun, 7));
            }
        }
        for (int node = 0; node < 9; node++) {
            int begun = node;
            Twins.alike("start(" + node + ", 9) when spent", () -> started(States.make(States.SPENT), begun, 9),
                () -> started(started(States.make(States.SPENT), 0, 200), begun, 9));
        }
    }

    /** "The answer is the new outcome." */
    private static void theAnswerIsTheOutcome() {
        int[] ways = {0, 9, 4, 1, 5, 6, 8};
        for (int state = LazyKrivine.IDLE; state <= LazyKrivine.ZERO_DIVISOR; state++) {
            for (int way = 0; way < ways.length; way++) {
                LazyKrivine x = States.make(state);
                String what = "start(" + ways[way] + ", 100) when " + States.name(state);
                Checks.due(what, x.start(ways[way], 100), LazyKrivine.INTEGER + way);
                Checks.due(what + " outcome()", x.outcome(), LazyKrivine.INTEGER + way);
            }
        }
    }

    /** "The nodes do not change." */
    private static void nodesStay() {
        for (int state = 0; state < States.COUNT; state++) {
            LazyKrivine x = States.make(state);
            String before = Checks.nodes(x);
            for (int node = 0; node < x.size(); node++) {
                x.start(node, 240);
                Checks.same("nodes after start(" + node + ", 240)", Checks.nodes(x), before);
            }
        }
    }

    /** "If the charge equals the allowance, the session stops with `EXHAUSTED`": before anything of the node's kind. */
    private static void noNodeIsEvaluatedBeyondTheAllowance() {
        for (int kind = LazyKrivine.LITERAL; kind <= LazyKrivine.EQUAL; kind++) {
            LazyKrivine x = Checks.fresh();
            Checks.literal(x, 3);
            int last = x.add(kind, 0, 0, 0);
            int whole = Checks.operator(x, LazyKrivine.ADD, 0, last);
            Checks.ends("kind " + kind + " beyond 2", x, x.start(whole, 2), LazyKrivine.EXHAUSTED, 0, 2);
            Checks.due("allowance() stays", x.allowance(), 2);
            Checks.ends("kind " + kind + " beyond 1", x, x.start(whole, 1), LazyKrivine.EXHAUSTED, 0, 1);
        }
    }

    private static int factorialOf(LazyKrivine x, int integer) {
        int zeroth = Checks.variable(x, 0);
        int self = Checks.variable(x, 1);
        int one = Checks.literal(x, 1);
        int less = Checks.operator(x, LazyKrivine.SUBTRACT, zeroth, one);
        int product = Checks.operator(x, LazyKrivine.MULTIPLY, zeroth, Checks.apply(x, self, less));
        int body = Checks.branch(x, zeroth, product, one);
        int factorial = Checks.recursive(x, Checks.lambda(x, body));
        return Checks.apply(x, factorial, Checks.literal(x, integer));
    }

    /** "Every EVAL in these rules, however nested, tests the one charge of the session against the allowance", and
     * "after `EXHAUSTED` it equals the allowance", the result being "0 for `EXHAUSTED`" */
    private static void exhaustionComesAtEveryCharge() {
        LazyKrivine x = Checks.fresh();
        int node = factorialOf(x, 5);
        for (int allowance = 1; allowance <= 240; allowance++) {
            int answer = x.start(node, allowance);
            if (allowance < 132) {
                Checks.ends("5! within " + allowance, x, answer, LazyKrivine.EXHAUSTED, 0, allowance);
            } else {
                Checks.ends("5! within " + allowance, x, answer, LazyKrivine.INTEGER, 120, 132);
            }
            Checks.due("allowance() of 5!", x.allowance(), allowance);
        }
    }

    private static void justEnough(LazyKrivine x, int node, int outcome, int result, int charge) {
        String what = "node " + node + " within ";
        Checks.ends(what + charge, x, x.start(node, charge), outcome, result, charge);
        Checks.due(what + charge + " allowance()", x.allowance(), charge);
        Checks.ends(what + (charge + 1), x, x.start(node, charge + 1), outcome, result, charge);
        if (charge > 1) {
            Checks.ends(what + (charge - 1), x, x.start(node, charge - 1), LazyKrivine.EXHAUSTED, 0, charge - 1);
        }
    }

    /** "An evaluation whose charge reaches the allowance exactly and which needs no further EVAL does not stop with
     * `EXHAUSTED`: it ends with the value or the fault that the rules give." */
    private static void reachingTheAllowanceIsNotExhaustion() {
        LazyKrivine x = Checks.fresh();
        int six = Checks.literal(x, 6);
        int open = Checks.variable(x, 0);
        int function = Checks.lambda(x, open);
        justEnough(x, six, LazyKrivine.INTEGER, 6, 1);
        justEnough(x, open, LazyKrivine.UNBOUND, open, 1);
        justEnough(x, function, LazyKrivine.FUNCTION, function, 1);
        justEnough(x, Checks.recursive(x, six), LazyKrivine.INTEGER, 6, 2);
        justEnough(x, Checks.recursive(x, function), LazyKrivine.FUNCTION, function, 2);
        justEnough(x, Checks.apply(x, function, six), LazyKrivine.INTEGER, 6, 4);
        justEnough(x, Checks.apply(x, function, function), LazyKrivine.FUNCTION, function, 4);
        justEnough(x, Checks.apply(x, function, open), LazyKrivine.UNBOUND, open, 4);
        int misapplied = Checks.apply(x, six, six);
        justEnough(x, misapplied, LazyKrivine.NOT_FUNCTION, misapplied, 2);
        justEnough(x, Checks.branch(x, six, six, open), LazyKrivine.INTEGER, 6, 3);
        int branched = Checks.branch(x, function, six, six);
        justEnough(x, branched, LazyKrivine.NOT_INTEGER, branched, 2);
        int bomb = Checks.bomb(x);
        justEnough(x, bomb, LazyKrivine.ZERO_DIVISOR, bomb, 3);
        int[] results = {12, 0, 36, 1, 0, 1};
        for (int kind = LazyKrivine.ADD; kind <= LazyKrivine.EQUAL; kind++) {
            int made = Checks.operator(x, kind, six, six);
            justEnough(x, made, LazyKrivine.INTEGER, results[kind - LazyKrivine.ADD], 3);
        }
        int left = Checks.operator(x, LazyKrivine.LESS, function, six);
        justEnough(x, left, LazyKrivine.NOT_INTEGER, left, 2);
        int right = Checks.operator(x, LazyKrivine.LESS, six, function);
        justEnough(x, right, LazyKrivine.NOT_INTEGER, right, 3);
    }

    /** The same where the allowance is the least and the greatest limit. */
    private static void reachingTheLimitIsNotExhaustion() {
        LazyKrivine x = Checks.fresh();
        int[] doubled = new int[7];
        doubled[0] = Checks.literal(x, 1);
        for (int level = 1; level <= 6; level++) {
            doubled[level] = Checks.operator(x, LazyKrivine.ADD, doubled[level - 1], doubled[level - 1]);
        }
        int eight = Checks.recursive(x, doubled[2]);
        int sixteen = Checks.operator(x, LazyKrivine.ADD, doubled[2], eight);
        int fortyEight = Checks.operator(x, LazyKrivine.ADD, doubled[4], sixteen);
        int more = Checks.operator(x, LazyKrivine.ADD, doubled[5], fortyEight);
        int most = Checks.operator(x, LazyKrivine.ADD, doubled[6], more);
        justEnough(x, sixteen, LazyKrivine.INTEGER, 8, 16);
        justEnough(x, fortyEight, LazyKrivine.INTEGER, 24, 48);
        justEnough(x, more, LazyKrivine.INTEGER, 56, 112);
        Checks.runs("all of 240", x, most, LazyKrivine.INTEGER, 120, 240);
        Checks.ends("239 of 240", x, x.start(most, 239), LazyKrivine.EXHAUSTED, 0, 239);
        int beyond = Checks.recursive(x, most);
        Checks.runs("241 of 240", x, beyond, LazyKrivine.EXHAUSTED, 0, 240);
    }

    /** Node 0 is a literal and node 2 the identity in every object that this is used on. */
    private static int nested(LazyKrivine x, int way, int inner) {
        switch (way) {
            case 0:
                return Checks.apply(x, inner, 0);
            case 1:
                return Checks.branch(x, inner, 0, 0);
            case 2:
                return Checks.operator(x, LazyKrivine.ADD, inner, 0);
            case 3:
                return Checks.operator(x, LazyKrivine.EQUAL, 0, inner);
            case 4:
                return Checks.branch(x, 0, inner, 0);
            case 5:
                return Checks.recursive(x, inner);
            case 6:
                return Checks.apply(x, Checks.lambda(x, inner), 0);
            default:
                return Checks.apply(x, 2, inner);
        }
    }

    private static int faulty(LazyKrivine x, int outcome) {
        switch (outcome) {
            case LazyKrivine.UNBOUND:
                return Checks.variable(x, 31);
            case LazyKrivine.NOT_FUNCTION:
                return Checks.apply(x, 0, 0);
            case LazyKrivine.NOT_INTEGER:
                return Checks.operator(x, LazyKrivine.ADD, 2, 0);
            default:
                return Checks.bomb(x);
        }
    }

    /** "To *stop* with an outcome ends the whole evaluation at once, however deeply nested it is.", and "the charge
     * stays as it is at that moment" */
    private static void stopsHoweverDeep() {
        int[] costsOfNesting = {1, 1, 1, 2, 2, 1, 2, 3};
        int[] costsOfFaults = {1, 2, 2, 3};
        for (int way = 0; way < WAYS_TO_NEST; way++) {
            for (int outcome = LazyKrivine.UNBOUND; outcome <= LazyKrivine.ZERO_DIVISOR; outcome++) {
                LazyKrivine x = Checks.fresh();
                Checks.literal(x, 5);
                Checks.lambda(x, Checks.variable(x, 0));
                int fault = faulty(x, outcome);
                int node = fault;
                for (int level = 0; level < LEVELS; level++) {
                    node = nested(x, way, node);
                }
                int charge = LEVELS * costsOfNesting[way] + costsOfFaults[outcome - LazyKrivine.UNBOUND];
                Checks.runs("fault " + outcome + " deep in way " + way, x, node, outcome, fault, charge);
                int less = charge - 1;
                Checks.ends("deep in way " + way, x, x.start(node, less), LazyKrivine.EXHAUSTED, 0, less);
            }
        }
    }

    /** "the result becomes the node named", be it the first or the last, and "The allowance stays." */
    private static void stopsAtTheFaultyNode() {
        for (int number = 0; number < 32; number++) {
            LazyKrivine x = Checks.fresh();
            States.fill(x, number);
            int open = Checks.variable(x, 3);
            Checks.runs("unbound at " + number, x, open, LazyKrivine.UNBOUND, number, 1);
        }
        for (int outcome = LazyKrivine.EXHAUSTED; outcome <= LazyKrivine.ZERO_DIVISOR; outcome++) {
            LazyKrivine x = States.make(outcome);
            Checks.due("allowance() when " + States.name(outcome), x.allowance(), 100);
            Checks.holdsNothing(States.name(outcome), x);
        }
    }

    /** "For an integer, the outcome becomes `INTEGER`, the result becomes that integer, and no function is held." */
    private static void takesIntegers() {
        for (int integer : new int[] {MIN, -1, 0, 1, 12345, MAX}) {
            LazyKrivine x = States.make(LazyKrivine.FUNCTION);
            int node = Checks.literal(x, integer);
            Checks.runs("literal " + integer, x, node, LazyKrivine.INTEGER, integer, 1);
            Checks.due("literal " + integer + " captured(-1)", x.captured(-1), -1);
        }
    }

    /** "For a function (m, d), the outcome becomes `FUNCTION`, the result becomes m, and (m, d) becomes the held
     * function." */
    private static void takesFunctions() {
        LazyKrivine x = States.make(LazyKrivine.ZERO_DIVISOR);
        Checks.runs("a function of no bindings", x, 3, LazyKrivine.FUNCTION, 3, 1);
        Checks.due("captured(0) of no bindings", x.captured(0), -1);
        Checks.runs("a function of one binding", x, 9, LazyKrivine.FUNCTION, 3, 2);
        Checks.due("captured(0) of one binding", x.captured(0), 9);
        Checks.due("captured(1) of one binding", x.captured(1), -1);
        Checks.ends("applied", x, x.supply(0), LazyKrivine.INTEGER, 41, 5);
    }
}
