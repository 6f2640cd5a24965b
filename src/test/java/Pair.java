/** A LazyKrivine and a Reference on which the same calls are made; every answer of the two is compared. */
final class Pair {
    final LazyKrivine x;
    private final Reference y;
    private final String name;

    Pair(String name, int cells, int limit) {
        this.name = name;
        x = new LazyKrivine(cells, limit);
        y = new Reference(cells, limit);
    }

    void add(int kind, int a, int b, int c) {
        ended("add(" + kind + ", " + a + ", " + b + ", " + c + ")", x.add(kind, a, b, c), y.add(kind, a, b, c));
    }

    void clear() {
        x.clear();
        y.clear();
        compareSession("clear()");
    }

    int start(int node, int allowance) {
        return ended("start(" + node + ", " + allowance + ")", x.start(node, allowance), y.start(node, allowance));
    }

    int supply(int node) {
        return ended("supply(" + node + ")", x.supply(node), y.supply(node));
    }

    int demand(int index) {
        return ended("demand(" + index + ")", x.demand(index), y.demand(index));
    }

    /** Answers what was due. */
    private int ended(String call, int got, int want) {
        Checks.due(name + " " + call, got, want);
        compareSession(call);
        return want;
    }

    private void compareSession(String call) {
        String after = name + " after " + call;
        Checks.due(after + " outcome()", x.outcome(), y.outcome);
        Checks.due(after + " result()", x.result(), y.result);
        Checks.due(after + " charge()", x.charge(), y.charge);
        Checks.due(after + " allowance()", x.allowance(), y.allowance);
        // One index beyond what so many nodes can bind.
        for (int index = -1; index <= x.size(); index++) {
            Checks.due(after + " captured(" + index + ")", x.captured(index), y.captured(index));
        }
    }

    void compareNode(int node, int which) {
        Checks.due(name + " size()", x.size(), y.size());
        Checks.due(name + " kind(" + node + ")", x.kind(node), y.kind(node));
        Checks.due(name + " part(" + node + ", " + which + ")", x.part(node, which), y.part(node, which));
    }
}
