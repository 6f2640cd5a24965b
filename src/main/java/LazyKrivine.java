/** A lazy evaluator for small functional programs, run within a limited work allowance. */
public final class LazyKrivine {
    public static final int REFUSED = -1;

    public static final int LITERAL = 0;
    public static final int VARIABLE = 1;
    public static final int LAMBDA = 2;
    public static final int RECURSIVE = 3;
    public static final int APPLY = 4;
    public static final int BRANCH = 5;
    public static final int ADD = 6;
    public static final int SUBTRACT = 7;
    public static final int MULTIPLY = 8;
    public static final int QUOTIENT = 9;
    public static final int LESS = 10;
    public static final int EQUAL = 11;

    public static final int IDLE = 0;
    public static final int INTEGER = 1;
    public static final int FUNCTION = 2;
    public static final int EXHAUSTED = 3;
    public static final int UNBOUND = 4;
    public static final int NOT_FUNCTION = 5;
    public static final int NOT_INTEGER = 6;
    public static final int ZERO_DIVISOR = 7;

    private static final int LEAST_CELLS = 8;
    private static final int MOST_CELLS = 32;
    private static final int LEAST_LIMIT = 16;
    private static final int MOST_LIMIT = 240;
    private static final int LEAST_ALLOWANCE = 1;
    private static final int MOST_INDEX = 31;
    private static final int NO_KIND = -1;
    private static final int NO_NODE = -1;

    private static final int EMPTY = 0;

    // Every extension is paid for by a charge of its own (an APPLY, a RECURSIVE or a
    // supply), so a session makes at most MOST_LIMIT of them beside the empty one.
    private static final int MOST_ENVIRONMENTS = MOST_LIMIT + 1;

    // A frame is put up only by an EVAL that was charged, and by each at most once.
    private static final int MOST_FRAMES = MOST_LIMIT;

    // A run needs at most some 3 * MOST_LIMIT steps: each charged EVAL is one step and
    // its frame is resumed at most twice.
    private static final int STEP_BOUND = 1000000;

    private static final int EVALUATING = 0;
    private static final int RETURNING = 1;
    private static final int ENDED = 2;

    private final int cells;
    private final int limit;

    private int size;
    private final int[] kinds = new int[MOST_CELLS];
    private final int[] firstParts = new int[MOST_CELLS];
    private final int[] secondParts = new int[MOST_CELLS];
    private final int[] thirdParts = new int[MOST_CELLS];

    private int outcome;
    private int result;
    private int charge;
    private int allowance;
    // The held function is (result, heldEnvironment); it counts only while the outcome is FUNCTION.
    private int heldEnvironment;

    // An environment is the number of its binding 0; what it extends holds the others.
    private int environments;
    private final int[] boundNodes = new int[MOST_ENVIRONMENTS];
    private final int[] boundEnvironments = new int[MOST_ENVIRONMENTS];
    private final int[] extendedFrom = new int[MOST_ENVIRONMENTS];
    private final int[] lengths = new int[MOST_ENVIRONMENTS];

    private int frames;
    private final int[] frameNodes = new int[MOST_FRAMES];
    private final int[] frameEnvironments = new int[MOST_FRAMES];
    private final int[] frameLefts = new int[MOST_FRAMES];
    private final boolean[] frameHasLeft = new boolean[MOST_FRAMES];

    private int phase;
    // The suspension to evaluate next, while EVALUATING.
    private int focusNode;
    private int focusEnvironment;
    // The value just found, while RETURNING: the integer, or the LAMBDA node and its environment.
    private boolean valueIsFunction;
    private int value;
    private int valueEnvironment;

    public LazyKrivine(int cells, int limit) {
        this.cells = clamped(cells, LEAST_CELLS, MOST_CELLS);
        this.limit = clamped(limit, LEAST_LIMIT, MOST_LIMIT);
        size = 0;
        resetSession();
    }

    public int add(int kind, int a, int b, int c) {
        if (kind < LITERAL || kind > EQUAL || size >= cells) {
            return REFUSED;
        }
        if (kind == VARIABLE && (a < 0 || a > MOST_INDEX)) {
            return REFUSED;
        }
        int children = childrenOf(kind);
        if ((children >= 1 && !exists(a)) || (children >= 2 && !exists(b)) || (children >= 3 && !exists(c))) {
            return REFUSED;
        }
        int node = size;
        kinds[node] = kind;
        firstParts[node] = a;
        secondParts[node] = children >= 2 ? b : 0;
        thirdParts[node] = children >= 3 ? c : 0;
        size = node + 1;
        return node;
    }

    public void clear() {
        size = 0;
        resetSession();
    }

    public int size() {
        return size;
    }

    public int kind(int node) {
        return exists(node) ? kinds[node] : NO_KIND;
    }

    public int part(int node, int which) {
        if (!exists(node)) {
            return 0;
        }
        switch (which) {
            case 0:
                return firstParts[node];
            case 1:
                return secondParts[node];
            case 2:
                return thirdParts[node];
            default:
                return 0;
        }
    }

    public int start(int node, int allowance) {
        if (!exists(node)) {
            return REFUSED;
        }
        resetSession();
        this.allowance = clamped(allowance, LEAST_ALLOWANCE, limit);
        evaluate(node, EMPTY);
        return outcome;
    }

    public int supply(int node) {
        if (outcome != FUNCTION || !exists(node)) {
            return REFUSED;
        }
        if (chargeOne()) {
            int inner = extend(heldEnvironment, node, EMPTY);
            evaluate(firstParts[result], inner);
        }
        return outcome;
    }

    public int demand(int index) {
        if (outcome != FUNCTION || !hasBinding(heldEnvironment, index)) {
            return REFUSED;
        }
        if (chargeOne()) {
            int binding = bindingOf(heldEnvironment, index);
            evaluate(boundNodes[binding], boundEnvironments[binding]);
        }
        return outcome;
    }

    public int outcome() {
        return outcome;
    }

    public int result() {
        return result;
    }

    public int charge() {
        return charge;
    }

    public int allowance() {
        return allowance;
    }

    public int captured(int index) {
        if (outcome != FUNCTION || !hasBinding(heldEnvironment, index)) {
            return NO_NODE;
        }
        int binding = bindingOf(heldEnvironment, index);
        return boundNodes[binding];
    }

    private static int clamped(int number, int least, int most) {
        if (number < least) {
            return least;
        }
        return number > most ? most : number;
    }

    private static int childrenOf(int kind) {
        switch (kind) {
            case LITERAL:
            case VARIABLE:
                return 0;
            case LAMBDA:
            case RECURSIVE:
                return 1;
            case BRANCH:
                return 3;
            default:
                return 2;
        }
    }

    private boolean exists(int node) {
        return node >= 0 && node < size;
    }

    private void resetSession() {
        outcome = IDLE;
        result = 0;
        charge = 0;
        allowance = 0;
        heldEnvironment = EMPTY;
        environments = EMPTY + 1;
    }

    private int extend(int environment, int node, int nodeEnvironment) {
        int extended = environments;
        boundNodes[extended] = node;
        boundEnvironments[extended] = nodeEnvironment;
        extendedFrom[extended] = environment;
        lengths[extended] = lengths[environment] + 1;
        environments = extended + 1;
        return extended;
    }

    private boolean hasBinding(int environment, int index) {
        return index >= 0 && index < lengths[environment];
    }

    private int bindingOf(int environment, int index) {
        int binding = environment;
        for (int passed = 0; passed < index; passed++) {
            binding = extendedFrom[binding];
        }
        return binding;
    }

    private boolean chargeOne() {
        if (charge >= allowance) {
            stop(EXHAUSTED, 0);
            return false;
        }
        charge++;
        return true;
    }

    private void stop(int fault, int node) {
        outcome = fault;
        result = node;
        phase = ENDED;
    }

    // Nested EVALs wait in frames; an EVAL whose value is that of another one leaves no frame.
    private void evaluate(int node, int environment) {
        frames = 0;
        focusOn(node, environment);
        for (int step = 0; step < STEP_BOUND && phase != ENDED; step++) {
            if (phase == EVALUATING) {
                evaluateFocus();
            } else if (frames > 0) {
                resumeFrame();
            } else {
                takeValue();
            }
        }
    }

    private void focusOn(int node, int environment) {
        focusNode = node;
        focusEnvironment = environment;
        phase = EVALUATING;
    }

    private void evaluateFocus() {
        if (!chargeOne()) {
            return;
        }
        int node = focusNode;
        switch (kinds[node]) {
            case LITERAL:
                returnInteger(firstParts[node]);
                break;
            case VARIABLE:
                evaluateVariable(node, focusEnvironment);
                break;
            case LAMBDA:
                returnFunction(node, focusEnvironment);
                break;
            case RECURSIVE:
                evaluateRecursive(node, focusEnvironment);
                break;
            default:
                // APPLY, BRANCH and the operators all begin with their first part.
                pushFrame(node, focusEnvironment);
                focusOn(firstParts[node], focusEnvironment);
                break;
        }
    }

    private void evaluateVariable(int node, int environment) {
        int index = firstParts[node];
        if (!hasBinding(environment, index)) {
            stop(UNBOUND, node);
            return;
        }
        int binding = bindingOf(environment, index);
        focusOn(boundNodes[binding], boundEnvironments[binding]);
    }

    private void evaluateRecursive(int node, int environment) {
        int inner = extend(environment, node, environment);
        focusOn(firstParts[node], inner);
    }

    private void returnInteger(int integer) {
        valueIsFunction = false;
        value = integer;
        phase = RETURNING;
    }

    private void returnFunction(int node, int environment) {
        valueIsFunction = true;
        value = node;
        valueEnvironment = environment;
        phase = RETURNING;
    }

    private void pushFrame(int node, int environment) {
        frameNodes[frames] = node;
        frameEnvironments[frames] = environment;
        frameHasLeft[frames] = false;
        frames++;
    }

    private void resumeFrame() {
        int frame = frames - 1;
        int node = frameNodes[frame];
        int environment = frameEnvironments[frame];
        frames = frame;
        if (kinds[node] == APPLY) {
            applyValue(node, environment);
        } else if (valueIsFunction) {
            stop(NOT_INTEGER, node);
        } else if (kinds[node] == BRANCH) {
            focusOn(value != 0 ? secondParts[node] : thirdParts[node], environment);
        } else if (frameHasLeft[frame]) {
            operate(node, frameLefts[frame], value);
        } else {
            frameLefts[frame] = value;
            frameHasLeft[frame] = true;
            frames = frame + 1;
            focusOn(secondParts[node], environment);
        }
    }

    private void applyValue(int node, int environment) {
        if (!valueIsFunction) {
            stop(NOT_FUNCTION, node);
            return;
        }
        int inner = extend(valueEnvironment, secondParts[node], environment);
        focusOn(firstParts[value], inner);
    }

    private void operate(int node, int left, int right) {
        switch (kinds[node]) {
            case ADD:
                returnInteger(left + right);
                break;
            case SUBTRACT:
                returnInteger(left - right);
                break;
            case MULTIPLY:
                returnInteger(left * right);
                break;
            case LESS:
                returnInteger(left < right ? 1 : 0);
                break;
            case EQUAL:
                returnInteger(left == right ? 1 : 0);
                break;
            default:
                // QUOTIENT: no other kind of node waits for two integers.
                if (right == 0) {
                    stop(ZERO_DIVISOR, node);
                } else {
                    returnInteger(left / right);
                }
                break;
        }
    }

    private void takeValue() {
        outcome = valueIsFunction ? FUNCTION : INTEGER;
        result = value;
        heldEnvironment = valueIsFunction ? valueEnvironment : EMPTY;
        phase = ENDED;
    }
}
