import java.util.Arrays;

/** Objects in every kind of state, made the same way each time. States 0 to 7 are the outcomes. */
final class States {
    static final int NEW = 8;
    static final int CLEARED = 9;
    /** A held function with two bindings, room for nodes, and a charge far below the allowance. */
    static final int HOLDING = 10;
    /** The same in an arena of 32 nodes without room. */
    static final int FULL = 11;
    /** The same with a charge that equals the allowance. */
    static final int SPENT = 12;
    /** The smallest arena without room. */
    static final int FULL_OF_EIGHT = 13;
    static final int COUNT = 14;
    /** The states in which a function is held. */
    static final int[] HOLDERS = {LazyKrivine.FUNCTION, HOLDING, FULL, SPENT};

    /** The function held after holding(), whose bindings are node 1 and node 0. */
    static final int HELD = 4;
    /** The charge after holding(). */
    static final int HELD_CHARGE = 5;

    private static final String[] NAMES = {
        "IDLE", "INTEGER", "FUNCTION", "EXHAUSTED", "UNBOUND", "NOT_FUNCTION", "NOT_INTEGER", "ZERO_DIVISOR",
        "new", "cleared", "holding", "full", "spent", "full of eight"};

    private States() {
    }

    static String name(int state) {
        return NAMES[state];
    }

    static LazyKrivine make(int state) {
        LazyKrivine x;
        switch (state) {
            case NEW:
                return empty(state);
            case CLEARED:
                x = holding(100);
                x.clear();
                return x;
            case HOLDING:
                return holding(100);
            case FULL:
                x = holding(100);
                fill(x, 32);
                return x;
            case SPENT:
                return holding(HELD_CHARGE);
            case FULL_OF_EIGHT:
                x = empty(state);
                fill(x, 8);
                x.start(5, 10);
                return x;
            default:
                return reached(state);
        }
    }

    /** A new object with as much room as those in the state. */
    static LazyKrivine empty(int state) {
        return state == FULL_OF_EIGHT ? new LazyKrivine(8, 16) : Checks.fresh();
    }

    static boolean hasRoom(int state) {
        return state != FULL && state != FULL_OF_EIGHT;
    }

    static boolean holds(int state) {
        return Arrays.stream(HOLDERS).anyMatch(holder -> holder == state);
    }

    /** Makes literals until there are so many nodes. */
    static void fill(LazyKrivine x, int count) {
        for (int node = x.size(); node < count; node++) {
            Checks.due("filling up to " + count, Checks.literal(x, 100 + node), node);
        }
    }

    /** Holds n -> n + 7, the 7 being a VARIABLE whose own environment is not empty. */
    static LazyKrivine holding(int allowance) {
        LazyKrivine x = Checks.fresh();
        int seven = Checks.literal(x, 7);
        int zeroth = Checks.variable(x, 0);
        int sum = Checks.operator(x, LazyKrivine.ADD, zeroth, Checks.variable(x, 1));
        int inner = Checks.lambda(x, sum);
        int call = Checks.apply(x, Checks.lambda(x, inner), zeroth);
        int whole = Checks.apply(x, Checks.lambda(x, call), seven);
        int answer = x.start(whole, allowance);
        Checks.ends("holding a function", x, answer, LazyKrivine.FUNCTION, HELD, HELD_CHARGE);
        return x;
    }

    /** Nodes 0 to 9 are the same for each outcome; node 3 is the identity, node 8 divides by zero. */
    private static LazyKrivine reached(int outcome) {
        LazyKrivine x = Checks.fresh();
        Checks.literal(x, 41);
        Checks.variable(x, 0);
        Checks.lambda(x, 0);
        Checks.lambda(x, 1);
        Checks.recursive(x, 1);
        Checks.apply(x, 0, 0);
        Checks.operator(x, LazyKrivine.ADD, 3, 0);
        Checks.bomb(x);
        int held = Checks.recursive(x, 3);
        int[] ways = {-1, 0, held, 4, 1, 5, 6, 8};
        if (outcome != LazyKrivine.IDLE) {
            x.start(ways[outcome], 100);
        }
        Checks.due("reaching outcome " + outcome, x.outcome(), outcome);
        return x;
    }
}
