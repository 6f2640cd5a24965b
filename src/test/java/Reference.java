import java.util.ArrayList;
import java.util.List;

/** The document's rules over again as plain recursion over objects, to compare LazyKrivine with. */
final class Reference {
    private record Node(int kind, int a, int b, int c) {
    }

    private record Suspension(int node, List<Suspension> environment) {
    }

    /** The function is null for an integer. */
    private record Value(int integer, Suspension function) {
    }

    private static final class Stop extends RuntimeException {
        private static final long serialVersionUID = 1L;
        private final int outcome;
        private final int node;

        private Stop(int outcome, int node) {
            super(null, null, false, false);
            this.outcome = outcome;
            this.node = node;
        }
    }

    private final int cells;
    private final int limit;
    private final List<Node> nodes = new ArrayList<>();
    int outcome;
    int result;
    int charge;
    int allowance;
    private Suspension held;

    Reference(int cells, int limit) {
        this.cells = Math.max(8, Math.min(32, cells));
        this.limit = Math.max(16, Math.min(240, limit));
    }

    int add(int kind, int a, int b, int c) {
        if (kind < 0 || kind > 11 || nodes.size() == cells) {
            return -1;
        }
        Node node = switch (kind) {
            case 0 -> new Node(kind, a, 0, 0);
            case 1 -> a >= 0 && a <= 31 ? new Node(kind, a, 0, 0) : null;
            case 2, 3 -> exists(a) ? new Node(kind, a, 0, 0) : null;
            case 5 -> exists(a) && exists(b) && exists(c) ? new Node(kind, a, b, c) : null;
            default -> exists(a) && exists(b) ? new Node(kind, a, b, 0) : null;
        };
        if (node == null) {
            return -1;
        }
        nodes.add(node);
        return nodes.size() - 1;
    }

    void clear() {
        nodes.clear();
        outcome = 0;
        result = 0;
        charge = 0;
        allowance = 0;
        held = null;
    }

    int size() {
        return nodes.size();
    }

    int kind(int node) {
        return exists(node) ? nodes.get(node).kind : -1;
    }

    int part(int node, int which) {
        if (!exists(node) || which < 0 || which > 2) {
            return 0;
        }
        Node found = nodes.get(node);
        return which == 0 ? found.a : which == 1 ? found.b : found.c;
    }

    int start(int node, int wanted) {
        if (!exists(node)) {
            return -1;
        }
        charge = 0;
        allowance = Math.max(1, Math.min(limit, wanted));
        return settle(false, node, List.of());
    }

    int supply(int node) {
        if (held == null || !exists(node)) {
            return -1;
        }
        Suspension argument = new Suspension(node, List.of());
        return settle(true, nodes.get(held.node).a, extended(held.environment, argument));
    }

    int demand(int index) {
        if (captured(index) < 0) {
            return -1;
        }
        Suspension binding = held.environment.get(index);
        return settle(true, binding.node, binding.environment);
    }

    int captured(int index) {
        if (held == null || index < 0 || index >= held.environment.size()) {
            return -1;
        }
        return held.environment.get(index).node;
    }

    private boolean exists(int node) {
        return node >= 0 && node < nodes.size();
    }

    private static List<Suspension> extended(List<Suspension> environment, Suspension binding) {
        List<Suspension> longer = new ArrayList<>();
        longer.add(binding);
        longer.addAll(environment);
        return longer;
    }

    private int settle(boolean chargedFirst, int node, List<Suspension> environment) {
        held = null;
        try {
            if (chargedFirst) {
                chargeOne();
            }
            Value value = eval(node, environment);
            held = value.function;
            outcome = held == null ? 1 : 2;
            result = held == null ? value.integer : held.node;
        } catch (Stop stop) {
            outcome = stop.outcome;
            result = stop.node;
        }
        return outcome;
    }

    private void chargeOne() {
        if (charge == allowance) {
            throw new Stop(3, 0);
        }
        charge++;
    }

    private Value eval(int n, List<Suspension> e) {
        chargeOne();
        Node node = nodes.get(n);
        switch (node.kind) {
            case 0:
                return new Value(node.a, null);
            case 1:
                if (node.a >= e.size()) {
                    throw new Stop(4, n);
                }
                return eval(e.get(node.a).node, e.get(node.a).environment);
            case 2:
                return new Value(0, new Suspension(n, e));
            case 3:
                return eval(node.a, extended(e, new Suspension(n, e)));
            case 4:
                Suspension function = eval(node.a, e).function;
                if (function == null) {
                    throw new Stop(5, n);
                }
                return eval(nodes.get(function.node).a, extended(function.environment, new Suspension(node.b, e)));
            case 5:
                return eval(integer(node.a, e, n) != 0 ? node.b : node.c, e);
            default:
                int left = integer(node.a, e, n);
                int right = integer(node.b, e, n);
                return new Value(operated(node.kind, left, right, n), null);
        }
    }

    private int integer(int node, List<Suspension> environment, int asker) {
        Value value = eval(node, environment);
        if (value.function != null) {
            throw new Stop(6, asker);
        }
        return value.integer;
    }

    private static int operated(int kind, int left, int right, int asker) {
        switch (kind) {
            case 6:
                return (int) ((long) left + right);
            case 7:
                return (int) ((long) left - right);
            case 8:
                return (int) ((long) left * right);
            case 9:
                if (right == 0) {
                    throw new Stop(7, asker);
                }
                return (int) ((long) left / right);
            case 10:
                return (long) left - right < 0 ? 1 : 0;
            default:
                return (left ^ right) == 0 ? 1 : 0;
        }
    }
}
