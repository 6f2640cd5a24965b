import java.util.List;
import java.util.function.Supplier;
import java.util.function.ToIntFunction;

/**
 * Compares an object with its twin, on which a call was not made: not only what can be seen at once,
 * but also how both go on, since bindings and what is left of the allowance show only then.
 */
final class Twins {
    private static final List<List<ToIntFunction<LazyKrivine>>> WAYS_ON = List.of(
        List.of(x -> x.supply(0), x -> x.supply(3)),
        List.of(x -> x.demand(0), x -> x.demand(0)),
        List.of(x -> x.demand(1), x -> x.supply(1)),
        List.of(x -> Checks.literal(x, 77), x -> x.start(x.size() - 1, 50), x -> x.start(8, 999), x -> x.demand(0)),
        List.of(x -> cleared(x), x -> Checks.literal(x, 78), x -> x.start(0, 999)));

    private Twins() {
    }

    static void refuses(String what, Supplier<LazyKrivine> making, ToIntFunction<LazyKrivine> call) {
        Checks.due(what, call.applyAsInt(making.get()), LazyKrivine.REFUSED);
        changesNothing(what, making, call);
    }

    static void changesNothing(String what, Supplier<LazyKrivine> making, ToIntFunction<LazyKrivine> call) {
        alike(what + " changes nothing", () -> {
            LazyKrivine x = making.get();
            call.applyAsInt(x);
            return x;
        }, making);
    }

    /** The two ways of making lead to objects that can't be told apart. */
    static void alike(String what, Supplier<LazyKrivine> making, Supplier<LazyKrivine> twinMaking) {
        for (List<ToIntFunction<LazyKrivine>> way : WAYS_ON) {
            LazyKrivine x = making.get();
            LazyKrivine twin = twinMaking.get();
            Checks.same(what, Checks.state(x), Checks.state(twin));
            for (ToIntFunction<LazyKrivine> call : way) {
                Checks.due(what + ", going on", call.applyAsInt(x), call.applyAsInt(twin));
                Checks.same(what + ", gone on", Checks.state(x), Checks.state(twin));
            }
        }
    }

    private static int cleared(LazyKrivine x) {
        x.clear();
        return 0;
    }
}
