import java.util.function.Function;
import java.util.function.Supplier;

/** Calls that throw: which exception, that the street answers as before behind them, and that it goes on as one that was not asked. */
final class Refusals {
    private final Supplier<Vatcompiler> street;

    Refusals(Supplier<Vatcompiler> street) {
        this.street = street;
    }

    Refusals index(String call, Function<Vatcompiler, Object> act) {
        return one(call, act, IndexOutOfBoundsException.class);
    }

    Refusals argument(String call, Function<Vatcompiler, Object> act) {
        return one(call, act, IllegalArgumentException.class);
    }

    Refusals state(String call, Function<Vatcompiler, Object> act) {
        return one(call, act, IllegalStateException.class);
    }

    private Refusals one(String call, Function<Vatcompiler, Object> act, Class<?> due) {
        Vatcompiler asked = street.get();
        Checks.throwsOne(call, () -> act.apply(asked), due);
        Checks.same(call + ": answers as before", Answers.all(asked), Answers.all(street.get()));
        Vatcompiler goesOn = street.get();
        for (int k = 0; k < 3; k++) {
            Checks.throwsOne(call + ", again", () -> act.apply(goesOn), due);
        }
        Checks.same(call + ": goes on as before", Further.calls(goesOn), Further.calls(street.get()));
        return this;
    }
}
