/** What the tests share: comparing answers, seeing a whole state, and making nodes by name. */
final class Checks {
    static final int MIN = Integer.MIN_VALUE;
    static final int MAX = Integer.MAX_VALUE;

    private static int wrong = 0;
    private static int made = 0;

    private Checks() {
    }

    static void due(String what, long got, long want) {
        made++;
        if (got != want) {
            wrong++;
            System.out.println(what + " answered " + got + ", due is " + want);
        }
    }

    static void same(String what, String got, String want) {
        made++;
        if (!got.equals(want)) {
            wrong++;
            System.out.println(what + ": got " + got + ", due is " + want);
        }
    }

    static void finish() {
        System.out.println(made + " checks, " + wrong + " wrong");
        if (wrong != 0) {
            System.exit(1);
        }
    }

    /** Everything that can be seen of an object. */
    static String state(LazyKrivine x) {
        return session(x) + " captured " + bindings(x) + nodes(x);
    }

    static String bindings(LazyKrivine x) {
        StringBuilder seen = new StringBuilder();
        for (int index = -1; index <= 33; index++) {
            seen.append(index == -1 ? "" : ",").append(x.captured(index));
        }
        return seen.toString();
    }

    static String nodes(LazyKrivine x) {
        StringBuilder seen = new StringBuilder(" size ").append(x.size());
        for (int node = -1; node <= 33; node++) {
            seen.append(" (").append(x.kind(node));
            for (int which = -1; which <= 3; which++) {
                seen.append(' ').append(x.part(node, which));
            }
            seen.append(')');
        }
        return seen.toString();
    }

    static String session(LazyKrivine x) {
        return session(x.outcome(), x.result(), x.charge(), x.allowance());
    }

    static String session(int outcome, int result, int charge, int allowance) {
        return "outcome " + outcome + " result " + result + " charge " + charge + " allowance " + allowance;
    }

    /** Looks at the answer of start, supply or demand, and at what they leave. */
    static void ends(String what, LazyKrivine x, int answer, int outcome, int result, int charge) {
        due(what, answer, outcome);
        due(what + " outcome()", x.outcome(), outcome);
        due(what + " result()", x.result(), result);
        due(what + " charge()", x.charge(), charge);
        if (outcome != LazyKrivine.FUNCTION) {
            holdsNothing(what, x);
        }
    }

    static void holdsNothing(String what, LazyKrivine x) {
        due(what + " captured(0)", x.captured(0), -1);
        due(what + " supply(0)", x.supply(0), LazyKrivine.REFUSED);
        due(what + " demand(0)", x.demand(0), LazyKrivine.REFUSED);
    }

    /** A start with the greatest allowance. */
    static void runs(String what, LazyKrivine x, int node, int outcome, int result, int charge) {
        int answer = x.start(node, 240);
        ends(what, x, answer, outcome, result, charge);
        due(what + " allowance()", x.allowance(), 240);
    }

    static LazyKrivine fresh() {
        return new LazyKrivine(32, 240);
    }

    static int literal(LazyKrivine x, int integer) {
        return x.add(LazyKrivine.LITERAL, integer, 0, 0);
    }

    static int variable(LazyKrivine x, int index) {
        return x.add(LazyKrivine.VARIABLE, index, 0, 0);
    }

    static int lambda(LazyKrivine x, int body) {
        return x.add(LazyKrivine.LAMBDA, body, 0, 0);
    }

    static int recursive(LazyKrivine x, int body) {
        return x.add(LazyKrivine.RECURSIVE, body, 0, 0);
    }

    static int apply(LazyKrivine x, int function, int argument) {
        return x.add(LazyKrivine.APPLY, function, argument, 0);
    }

    static int branch(LazyKrivine x, int condition, int other, int zero) {
        return x.add(LazyKrivine.BRANCH, condition, other, zero);
    }

    static int operator(LazyKrivine x, int kind, int left, int right) {
        return x.add(kind, left, right, 0);
    }

    /** A node that stops with ZERO_DIVISOR as soon as it is evaluated. */
    static int bomb(LazyKrivine x) {
        int zero = literal(x, 0);
        return operator(x, LazyKrivine.QUOTIENT, zero, zero);
    }
}
