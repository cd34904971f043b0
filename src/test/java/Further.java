import java.util.function.Function;

/** Calls that change any street, what each answered or threw, and all answers behind them: whether two go on alike. */
final class Further {
    private final Vatcompiler x;
    private final StringBuilder text = new StringBuilder();

    private Further(Vatcompiler x) {
        this.x = x;
    }

    /** Some 60 calls beside those of Answers. */
    static String calls(Vatcompiler x) {
        Further further = new Further(x);
        further.workOn();
        further.tellMore();
        further.workOn();
        return further.text + Answers.all(x);
    }

    private void told(Function<Vatcompiler, Object> call) {
        try {
            text.append(call.apply(x)).append(' ');
        } catch (RuntimeException thrown) {
            text.append(thrown.getClass().getSimpleName()).append(' ');
        }
    }

    private void workOn() {
        for (int vat = 0; vat < 3; vat++) {
            int number = vat;
            told(y -> y.dip(1, number));
            told(y -> y.dip(2, number));
            told(y -> y.dip(4, number));
        }
        told(y -> y.pass(1));
        told(y -> y.rinse(0));
        told(y -> y.rinse(2));
        told(y -> y.fill(0, 1));
        told(y -> y.fill(1, 0));
        told(y -> y.spill(0, 1));
        told(y -> y.pass(2));
        told(y -> y.fill(0, 3));
        told(y -> y.dip(6, 0));
        told(y -> y.pass(1));
        told(Vatcompiler::fills);
    }

    private void tellMore() {
        told(y -> y.dye(456, 3, 11, false, 1));
        told(y -> y.recipe(5, 6, 7));
        told(y -> y.line(1, 0, 1, 2));
        told(y -> y.line(1, 3, 1, 1));
        told(y -> y.line(2, 2, 0, 2));
        told(y -> y.hank(1));
        told(Vatcompiler::vat);
        told(y -> y.rules(3, 12));
    }
}
