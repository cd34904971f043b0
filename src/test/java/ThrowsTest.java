import java.util.function.BiFunction;

/** Each line "Throws .." of the document: exactly that, the one named first where two apply, and nothing changed behind it. */
public final class ThrowsTest {
    private static final int LEAST = Integer.MIN_VALUE;
    private static final int MOST = Integer.MAX_VALUE;

    private static final Refusals MIDDLE = new Refusals(ThrowsTest::middle);
    private static final Refusals FULL = new Refusals(ThrowsTest::full);
    private static final Refusals DRY = new Refusals(ThrowsTest::dry);
    private static final Refusals EMPTY = new Refusals(Vatcompiler::new);

    public static void main(String[] args) {
        Sentences.run(ThrowsTest.class);
    }

    /** Four dyes, three recipes (0 of hanks, 1 free, 2 without lines), two vats, three hanks; foul, loose and slow ones, water let out. */
    private static Vatcompiler middle() {
        Vatcompiler x = new Vatcompiler();
        x.dye(800, 4, 10, true, 0);
        x.dye(70, 5, 20, false, 0);
        x.dye(6, 3, 30, false, 0);
        x.dye(333, 2, 40, true, 2);
        Recipes.tell(x, 40, 12, 7, "1 2 a3 3 r 0");
        Recipes.tell(x, 1, 2, 3, "0*2 r");
        x.recipe(9, 9, 9);
        x.vat();
        x.vat();
        for (int k = 0; k < 3; k++) {
            x.hank(0);
        }
        x.fill(0, 1);
        x.fill(1, 2);
        x.dip(7, 0);
        x.dip(3, 1);
        x.spill(0, 1);
        x.fill(0, 3);
        x.pass(3);
        x.dip(1, 0);
        x.pass(1);
        x.rinse(2);
        return x;
    }

    /** Six dyes, six recipes, three vats, ten hanks. */
    private static Vatcompiler full() {
        Vatcompiler x = new Vatcompiler();
        for (int k = 0; k < 6; k++) {
            x.dye(111 * k, 9 - k, 1 + k, k % 2 == 0, k % 4);
            Recipes.tell(x, 10 * k, k, 5, k == 5 ? "" : k + "*2 r");
        }
        for (int k = 0; k < 3; k++) {
            x.vat();
            x.fill(k, k);
        }
        for (int k = 0; k < 10; k++) {
            x.hank(k % 4);
        }
        x.dip(1 + 16 + 256, 0);
        return x;
    }

    /** As many measures are let out as may be. */
    private static Vatcompiler dry() {
        Vatcompiler x = middle();
        x.rinse(0);
        x.rinse(1);
        x.rinse(1);
        return x;
    }

    private static Vatcompiler at(int hour) {
        Vatcompiler x = middle();
        int left = hour - x.street(0);
        for (int k = 0; k < left / 24; k++) {
            x.pass(24);
        }
        if (left % 24 > 0) {
            x.pass(left % 24);
        }
        return x;
    }

    private static void wrongArguments(Refusals on, String call, BiFunction<Vatcompiler, Integer, Object> act, int... wrong) {
        for (int number : wrong) {
            on.argument(call + " with " + number, x -> act.apply(x, number));
        }
    }

    private static void wrongIndexes(Refusals on, String call, BiFunction<Vatcompiler, Integer, Object> act, int... wrong) {
        for (int number : wrong) {
            on.index(call + " with " + number, x -> act.apply(x, number));
        }
    }

    // ---- dyes and recipes

    private static void wrongDyes(Refusals on) {
        wrongArguments(on, "tint", (x, n) -> x.dye(n, 1, 1, true, 0), -1, 1000, LEAST, MOST);
        wrongArguments(on, "depth", (x, n) -> x.dye(0, n, 1, true, 0), 0, 10, LEAST, MOST);
        wrongArguments(on, "price", (x, n) -> x.dye(0, 1, n, true, 0), 0, 100, LEAST, MOST);
        wrongArguments(on, "slow", (x, n) -> x.dye(0, 1, 1, true, n), -1, 4, LEAST, MOST);
        on.argument("all wrong", x -> x.dye(-1, 0, 0, false, -1));
    }

    @Sentence("Throws `IllegalArgumentException` if tint is not 0 to 999, depth not 1 to 9, price not 1 to 99, or slow not 0 to 3")
    private static void promise2Argument() {
        wrongDyes(MIDDLE);
        wrongDyes(EMPTY);
    }

    @Sentence("Throws `IllegalStateException` if there are 6")
    private static void promise2State() {
        FULL.state("least", x -> x.dye(0, 1, 1, true, 0)).state("most", x -> x.dye(999, 9, 99, false, 3));
        Vatcompiler five = middle();
        Checks.same("a fifth", five.dye(0, 1, 1, true, 0), 4);
        Checks.same("a sixth", five.dye(0, 1, 1, true, 0), 5);
        Checks.throwsState("a seventh", () -> five.dye(0, 1, 1, true, 0));
    }

    @Sentence({"Throws `IllegalArgumentException` if tint is not 0 to 999, depth not 1 to 9, price not 1 to 99, or slow not 0 to 3",
        "Throws `IllegalStateException` if there are 6"})
    private static void promise2FirstNamed() {
        wrongDyes(FULL);
    }

    private static void wrongAims(Refusals on) {
        wrongArguments(on, "one", (x, n) -> x.recipe(n, 0, 0), -1, 100, LEAST, MOST);
        wrongArguments(on, "two", (x, n) -> x.recipe(0, n, 0), -1, 100, LEAST, MOST);
        wrongArguments(on, "three", (x, n) -> x.recipe(0, 0, n), -1, 100, LEAST, MOST);
    }

    @Sentence("Throws `IllegalArgumentException` if a number is not 0 to 99")
    private static void promise3Argument() {
        wrongAims(MIDDLE);
        wrongAims(EMPTY);
        Vatcompiler x = middle();
        Checks.same("the least", x.recipe(0, 0, 0), 3);
        Checks.same("the most", x.recipe(99, 99, 99), 4);
    }

    @Sentence("Throws `IllegalStateException` if there are 6")
    private static void promise3State() {
        FULL.state("least", x -> x.recipe(0, 0, 0)).state("most", x -> x.recipe(99, 99, 99));
    }

    @Sentence({"Throws `IllegalArgumentException` if a number is not 0 to 99", "Throws `IllegalStateException` if there are 6"})
    private static void promise3FirstNamed() {
        wrongAims(FULL);
    }

    // ---- lines

    @Sentence("Throws `IndexOutOfBoundsException` if there is no such RECIPE, or (of DIP) DYE")
    private static void promise4Index() {
        for (int kind = 0; kind <= 3; kind++) {
            int of = kind;
            wrongIndexes(MIDDLE, "recipe, kind " + of, (x, n) -> x.line(n, of, of == 3 ? 1 : 0, of == 1 ? 0 : 1), -1, 3, LEAST, MOST);
        }
        wrongIndexes(MIDDLE, "dye", (x, n) -> x.line(1, 0, n, 1), -1, 4, LEAST, MOST);
        EMPTY.index("no recipes", x -> x.line(0, 1, 0, 0));
        Refusals noDyes = new Refusals(() -> {
            Vatcompiler x = new Vatcompiler();
            x.recipe(0, 0, 0);
            return x;
        });
        noDyes.index("no dyes", x -> x.line(0, 0, 0, 1));
    }

    @Sentence("Throws `IllegalArgumentException` if kind is not 0 to 3, or what or times is not as told above")
    private static void promise4Argument() {
        wrongLines(MIDDLE, 1);
        wrongLines(MIDDLE, 2);
    }

    private static void wrongLines(Refusals on, int recipe) {
        wrongArguments(on, "kind", (x, n) -> x.line(recipe, n, 0, 0), -1, 4, LEAST, MOST);
        wrongArguments(on, "kind, of a line", (x, n) -> x.line(recipe, n, 1, 1), -1, 4, LEAST, MOST);
        wrongArguments(on, "times of a dip", (x, n) -> x.line(recipe, 0, 1, n), 0, 5, -1, LEAST, MOST);
        wrongArguments(on, "what of a rinse", (x, n) -> x.line(recipe, 1, n, 0), -1, 1, LEAST, MOST);
        wrongArguments(on, "times of a rinse", (x, n) -> x.line(recipe, 1, 0, n), -1, 1, LEAST, MOST);
        wrongArguments(on, "what of an air", (x, n) -> x.line(recipe, 2, n, 1), -1, 1, LEAST, MOST);
        wrongArguments(on, "times of an air", (x, n) -> x.line(recipe, 2, 0, n), 0, 5, -1, LEAST, MOST);
        wrongArguments(on, "what of an again", (x, n) -> x.line(recipe, 3, n, 1), 0, 4, -1, LEAST, MOST);
        wrongArguments(on, "times of an again", (x, n) -> x.line(recipe, 3, 1, n), 0, 4, -1, LEAST, MOST);
        on.argument("both of an again", x -> x.line(recipe, 3, 9, 9));
    }

    /** The middle street with more lines of the recipe 1. */
    private static Refusals withLines(String lines) {
        return new Refusals(() -> {
            Vatcompiler x = middle();
            for (String line : lines.split(" ")) {
                Recipes.add(x, 1, line);
            }
            return x;
        });
    }

    @Sentence("Throws `IllegalStateException` if a HANK has it, it has 8 LINES, an AGAIN has not such LINES ahead, or it would have more "
        + "than 10 STEPS")
    private static void promise4State() {
        for (String line : new String[] {"0", "r", "a1", "again1*1"}) {
            MIDDLE.state("a hank has it: " + line, x -> Recipes.add(x, 0, line));
            withLines("r r r r r r").state("8 lines: " + line, x -> Recipes.add(x, 1, line));
            withLines("0*4 r r r").state("10 steps: " + line, x -> Recipes.add(x, 1, line));
        }
        for (int lines = 1; lines <= 3; lines++) {
            int told = lines;
            MIDDLE.state("again without lines", x -> x.line(2, 3, told, 1));
            withLines("again1*1").state("again of an again", x -> x.line(1, 3, told, 1));
        }
        MIDDLE.state("again of 3 of 2 lines", x -> x.line(1, 3, 3, 1));
        withLines("again1*1 r").state("the second of 2 ahead is an again", x -> x.line(1, 3, 2, 1));
        withLines("again1*1 r r").state("the third of 3 ahead is an again", x -> x.line(1, 3, 3, 1));
        withLines("0*4").state("11 steps by a dip", x -> x.line(1, 0, 0, 4));
        withLines("0*4").state("11 steps by an again", x -> x.line(1, 3, 1, 1));
        withLines("r r").state("11 steps by an again", x -> x.line(1, 3, 3, 2));
    }

    @Sentence({"Throws `IndexOutOfBoundsException` if there is no such RECIPE, or (of DIP) DYE",
        "Throws `IllegalArgumentException` if kind is not 0 to 3, or what or times is not as told above"})
    private static void promise4IndexAheadOfArgument() {
        for (int recipe : new int[] {-1, 3}) {
            MIDDLE.index("no recipe, no kind", x -> x.line(recipe, 4, 0, 0)).index("no recipe, no times", x -> x.line(recipe, 0, 0, 5))
                .index("no recipe, what of a rinse", x -> x.line(recipe, 1, 1, 0)).index("no recipe, again", x -> x.line(recipe, 3, 0, 0));
        }
        wrongIndexes(MIDDLE, "no dye, 0 times", (x, n) -> x.line(1, 0, n, 0), -1, 4, LEAST, MOST);
        wrongIndexes(MIDDLE, "no dye, 5 times", (x, n) -> x.line(1, 0, n, 5), -1, 4, LEAST, MOST);
        MIDDLE.argument("of a dip alone: a rinse", x -> x.line(1, 1, 4, 0)).argument("of a dip alone: no kind", x -> x.line(1, 4, 4, 1));
    }

    @Sentence({"Throws `IndexOutOfBoundsException` if there is no such RECIPE, or (of DIP) DYE",
        "Throws `IllegalStateException` if a HANK has it, it has 8 LINES, an AGAIN has not such LINES ahead, or it would have more than 10 "
            + "STEPS"})
    private static void promise4IndexAheadOfState() {
        MIDDLE.index("no dye, a hank has it", x -> x.line(0, 0, 4, 1)).index("no dye, no times, a hank has it", x -> x.line(0, 0, 4, 0));
        withLines("r r r r r r").index("no dye, 8 lines", x -> x.line(1, 0, 4, 1));
        withLines("0*4 r r r").index("no dye, 11 steps", x -> x.line(1, 0, 4, 1));
    }

    @Sentence({"Throws `IllegalArgumentException` if kind is not 0 to 3, or what or times is not as told above",
        "Throws `IllegalStateException` if a HANK has it, it has 8 LINES, an AGAIN has not such LINES ahead, or it would have more than 10 "
            + "STEPS"})
    private static void promise4ArgumentAheadOfState() {
        wrongLines(MIDDLE, 0);
        wrongLines(withLines("r r r r r r"), 1);
        wrongLines(withLines("0*4 r r r"), 1);
        withLines("again1*1").argument("again 0 times of an again", x -> x.line(1, 3, 1, 0));
        MIDDLE.argument("again of 4 lines without lines", x -> x.line(2, 3, 4, 1));
    }

    // ---- vats

    @Sentence("Throws `IllegalStateException` if there are 3")
    private static void promise5State() {
        FULL.state("a fourth", Vatcompiler::vat);
        Vatcompiler x = middle();
        Checks.same("a third", x.vat(), 2);
        Checks.throwsState("a fourth", x::vat);
    }

    @Sentence("Throws `IndexOutOfBoundsException` if there is no such VAT, or DYE")
    private static void promise6Index() {
        wrongIndexes(MIDDLE, "vat", (x, n) -> x.fill(n, 0), -1, 2, LEAST, MOST);
        wrongIndexes(MIDDLE, "dye", (x, n) -> x.fill(0, n), -1, 4, LEAST, MOST);
        wrongIndexes(MIDDLE, "both", (x, n) -> x.fill(n, n), -1, 4, LEAST, MOST);
        EMPTY.index("no vats", x -> x.fill(0, 0));
        wrongIndexes(FULL, "vat", (x, n) -> x.fill(n, 0), -1, 3);
        wrongIndexes(FULL, "dye", (x, n) -> x.fill(0, n), -1, 6);
    }

    @Sentence("Throws `IllegalStateException` if too much water would be let out")
    private static void promise6State() {
        DRY.state("6 of 4", x -> x.fill(0, 1)).state("the same dye", x -> x.fill(0, 3));
        Refusals oneLeft = new Refusals(() -> {
            Vatcompiler x = middle();
            x.rinse(1);
            x.rinse(1);
            return x;
        });
        oneLeft.state("5 of 4", x -> x.fill(0, 1));
        Vatcompiler twoLeft = middle();
        twoLeft.rinse(1);
        Checks.same("4 of 4", twoLeft.fill(0, 1), 20 + 30 + 40 + 20);
    }

    @Sentence({"Throws `IndexOutOfBoundsException` if there is no such VAT, or DYE",
        "Throws `IllegalStateException` if too much water would be let out"})
    private static void promise6FirstNamed() {
        wrongIndexes(DRY, "vat", (x, n) -> x.fill(n, 0), -1, 2, LEAST, MOST);
        wrongIndexes(DRY, "dye", (x, n) -> x.fill(0, n), -1, 4, LEAST, MOST);
    }

    @Sentence("Throws `IndexOutOfBoundsException` if there is no such VAT, or tub is not 0 or 1")
    private static void promise7Index() {
        wrongIndexes(MIDDLE, "vat", (x, n) -> x.spill(n, 0), -1, 2, LEAST, MOST);
        wrongIndexes(MIDDLE, "tub", (x, n) -> x.spill(0, n), -1, 2, LEAST, MOST);
        wrongIndexes(MIDDLE, "both", (x, n) -> x.spill(n, n), -1, 2, LEAST, MOST);
        EMPTY.index("no vats", x -> x.spill(0, 0));
        wrongIndexes(FULL, "vat", (x, n) -> x.spill(n, 1), -1, 3);
    }

    // ---- hanks

    @Sentence("Throws `IndexOutOfBoundsException` if there is no such RECIPE")
    private static void promise8Index() {
        wrongIndexes(MIDDLE, "recipe", Vatcompiler::hank, -1, 3, LEAST, MOST);
        EMPTY.index("no recipes", x -> x.hank(0));
    }

    @Sentence("Throws `IllegalStateException` if there are 10, or the RECIPE has no LINES")
    private static void promise8State() {
        MIDDLE.state("no lines", x -> x.hank(2));
        FULL.state("an eleventh", x -> x.hank(0)).state("an eleventh, of a free recipe", x -> x.hank(4))
            .state("an eleventh, without lines", x -> x.hank(5));
    }

    @Sentence({"Throws `IndexOutOfBoundsException` if there is no such RECIPE",
        "Throws `IllegalStateException` if there are 10, or the RECIPE has no LINES"})
    private static void promise8FirstNamed() {
        wrongIndexes(FULL, "recipe, of ten hanks", Vatcompiler::hank, -1, 6, LEAST, MOST);
    }

    @Sentence("Throws `IndexOutOfBoundsException` if there is no such VAT")
    private static void promise9Index() {
        wrongIndexes(MIDDLE, "vat", (x, n) -> x.dip(2, n), -1, 2, LEAST, MOST);
        wrongIndexes(FULL, "vat", (x, n) -> x.dip(1, n), -1, 3);
    }

    @Sentence("Throws `IllegalArgumentException` if hanks is no set of HANKS that there are, or is empty")
    private static void promise9Argument() {
        wrongArguments(MIDDLE, "hanks", (x, n) -> x.dip(n, 0), 0, -1, 8, 10, 7 + 8, 1 << 30, LEAST, LEAST + 2, MOST);
        wrongArguments(FULL, "hanks", (x, n) -> x.dip(n, 0), 0, 1024, 1025, 2047, LEAST, MOST);
        Refusals noHanks = new Refusals(() -> {
            Vatcompiler x = new Vatcompiler();
            x.vat();
            return x;
        });
        wrongArguments(noHanks, "without hanks", (x, n) -> x.dip(n, 0), 0, 1, -1, LEAST, MOST);
    }

    @Sentence("Throws `IllegalStateException` if one of these can not be DIPPED there")
    private static void promise9State() {
        MIDDLE.state("a rinse is next", x -> x.dip(1, 0)).state("another dye is next", x -> x.dip(4, 0))
            .state("one of two", x -> x.dip(2 + 4, 0)).state("the other of two", x -> x.dip(1 + 2, 0))
            .state("all", x -> x.dip(7, 0)).state("the other vat", x -> x.dip(2, 1));
        new Refusals(() -> at(128)).state("no strength", x -> x.dip(2, 0));
        Refusals emptyVat = new Refusals(() -> {
            Vatcompiler x = middle();
            x.spill(0, 0);
            return x;
        });
        emptyVat.state("an empty vat", x -> x.dip(2, 0));
        FULL.state("all ten", x -> x.dip(1023, 0));
        Checks.same("the one alone", middle().dip(2, 0), 5);
    }

    @Sentence({"Throws `IndexOutOfBoundsException` if there is no such VAT",
        "Throws `IllegalArgumentException` if hanks is no set of HANKS that there are, or is empty",
        "Throws `IllegalStateException` if one of these can not be DIPPED there"})
    private static void promise9FirstNamed() {
        for (int vat : new int[] {-1, 2}) {
            wrongIndexes(MIDDLE, "vat and hanks", (x, n) -> x.dip(n, vat), 0, -1, 8, LEAST, MOST);
            MIDDLE.index("vat, and it can not", x -> x.dip(1, vat));
        }
        wrongArguments(MIDDLE, "hanks, and one can not", (x, n) -> x.dip(n, 0), 1 + 8, 4 + 8, LEAST + 1);
        EMPTY.index("nothing is there", x -> x.dip(0, 0));
        Refusals emptyVat = new Refusals(() -> {
            Vatcompiler x = middle();
            x.vat();
            return x;
        });
        wrongArguments(emptyVat, "hanks, and the vat is empty", (x, n) -> x.dip(n, 2), 0, 8, -1);
    }

    @Sentence("Throws `IndexOutOfBoundsException` if there is no such HANK")
    private static void promise10Index() {
        wrongIndexes(MIDDLE, "hank", Vatcompiler::rinse, -1, 3, LEAST, MOST);
        wrongIndexes(FULL, "hank", Vatcompiler::rinse, -1, 10);
        EMPTY.index("no hanks", x -> x.rinse(0));
    }

    @Sentence("Throws `IllegalStateException` if too much water would be let out")
    private static void promise10State() {
        DRY.state("besides", x -> x.rinse(0)).state("of another", x -> x.rinse(2));
        Refusals asAStep = new Refusals(() -> {
            Vatcompiler x = middle();
            x.rinse(1);
            x.rinse(1);
            x.rinse(1);
            return x;
        });
        asAStep.state("as its next step", x -> x.rinse(0));
        Refusals smaller = new Refusals(() -> {
            Vatcompiler x = middle();
            x.rules(1, 10);
            return x;
        });
        smaller.state("2 of 1", x -> x.rinse(0));
    }

    @Sentence({"Throws `IndexOutOfBoundsException` if there is no such HANK",
        "Throws `IllegalStateException` if too much water would be let out"})
    private static void promise10FirstNamed() {
        wrongIndexes(DRY, "hank, and no water", Vatcompiler::rinse, -1, 3, LEAST, MOST);
    }

    // ---- hours and rules

    @Sentence("Throws `IllegalArgumentException` if hours is not 1 to 24")
    private static void promise11Argument() {
        wrongArguments(MIDDLE, "hours", Vatcompiler::pass, 0, 25, -1, LEAST, MOST);
    }

    @Sentence("Throws `IllegalStateException` if HOUR would be above 500")
    private static void promise11State() {
        new Refusals(() -> at(500)).state("501", x -> x.pass(1)).state("524", x -> x.pass(24));
        new Refusals(() -> at(499)).state("501", x -> x.pass(2));
        new Refusals(() -> at(477)).state("501", x -> x.pass(24));
        Checks.same("500", at(499).pass(1), 500);
        Checks.same("500", at(476).pass(24), 500);
    }

    @Sentence({"Throws `IllegalArgumentException` if hours is not 1 to 24", "Throws `IllegalStateException` if HOUR would be above 500"})
    private static void promise11FirstNamed() {
        wrongArguments(new Refusals(() -> at(500)), "hours", Vatcompiler::pass, 0, 25, -1, LEAST, MOST);
        wrongArguments(new Refusals(() -> at(480)), "hours", Vatcompiler::pass, 25, MOST);
    }

    @Sentence("Throws `IllegalArgumentException` if limit is not 1 to 9, or band not 0 to 99")
    private static void promise12Argument() {
        wrongArguments(MIDDLE, "limit", (x, n) -> x.rules(n, 50), 0, 10, -1, LEAST, MOST);
        wrongArguments(MIDDLE, "band", (x, n) -> x.rules(7, n), -1, 100, LEAST, MOST);
        wrongArguments(MIDDLE, "both", (x, n) -> x.rules(n, n), -1, 100, LEAST, MOST);
    }

    // ---- what is asked

    private static void wrongNumbers(String call, BiFunction<Vatcompiler, Integer, Object> act, int count, int countOfFull) {
        wrongIndexes(MIDDLE, call, act, -1, count, LEAST, MOST);
        wrongIndexes(FULL, call, act, -1, countOfFull);
        wrongIndexes(EMPTY, call, act, 0, -1);
    }

    @Sentence("Throws `IndexOutOfBoundsException` if there is no such DYE")
    private static void promise13Index() {
        wrongNumbers("dye", (x, n) -> x.ofDye(n, 0), 4, 6);
        wrongNumbers("dye", (x, n) -> x.ofDye(n, 7), 4, 6);
    }

    @Sentence("Throws `IllegalArgumentException` if what is not 0 to 7")
    private static void promise13Argument() {
        wrongArguments(MIDDLE, "what", (x, n) -> x.ofDye(0, n), -1, 8, LEAST, MOST);
        wrongArguments(FULL, "what", (x, n) -> x.ofDye(5, n), -1, 8);
    }

    @Sentence({"Throws `IndexOutOfBoundsException` if there is no such DYE", "Throws `IllegalArgumentException` if what is not 0 to 7"})
    private static void promise13FirstNamed() {
        wrongNumbers("dye, and what -1", (x, n) -> x.ofDye(n, -1), 4, 6);
        wrongNumbers("dye, and what 8", (x, n) -> x.ofDye(n, 8), 4, 6);
    }

    @Sentence("Throws `IndexOutOfBoundsException` if there is no such RECIPE")
    private static void promise14Index() {
        wrongNumbers("recipe", (x, n) -> x.ofRecipe(n, 0), 3, 6);
        wrongNumbers("recipe", (x, n) -> x.ofRecipe(n, 7), 3, 6);
    }

    @Sentence("Throws `IllegalArgumentException` if what is not 0 to 7")
    private static void promise14Argument() {
        wrongArguments(MIDDLE, "what", (x, n) -> x.ofRecipe(2, n), -1, 8, LEAST, MOST);
    }

    @Sentence({"Throws `IndexOutOfBoundsException` if there is no such RECIPE", "Throws `IllegalArgumentException` if what is not 0 to 7"})
    private static void promise14FirstNamed() {
        wrongNumbers("recipe, and what -1", (x, n) -> x.ofRecipe(n, -1), 3, 6);
        wrongNumbers("recipe, and what 8", (x, n) -> x.ofRecipe(n, 8), 3, 6);
    }

    @Sentence("Throws `IndexOutOfBoundsException` if there is no such RECIPE")
    private static void promise15Index() {
        wrongNumbers("recipe", Vatcompiler::steps, 3, 6);
    }

    @Sentence("Throws `IndexOutOfBoundsException` if there is no such VAT, or TUB")
    private static void promise16Index() {
        wrongNumbers("vat", (x, n) -> x.bath(false, n, 0), 2, 3);
        wrongIndexes(MIDDLE, "tub", (x, n) -> x.bath(true, n, 0), -1, 2, LEAST, MOST);
        wrongIndexes(FULL, "tub", (x, n) -> x.bath(true, n, 2), -1, 2);
        wrongIndexes(EMPTY, "tub", (x, n) -> x.bath(true, n, 2), -1, 2);
    }

    @Sentence("Throws `IllegalArgumentException` if what is not 0 to 2")
    private static void promise16Argument() {
        wrongArguments(MIDDLE, "what of a vat", (x, n) -> x.bath(false, 1, n), -1, 3, LEAST, MOST);
        wrongArguments(MIDDLE, "what of a tub", (x, n) -> x.bath(true, 1, n), -1, 3, LEAST, MOST);
        wrongArguments(EMPTY, "what of an empty tub", (x, n) -> x.bath(true, 0, n), -1, 3);
    }

    @Sentence({"Throws `IndexOutOfBoundsException` if there is no such VAT, or TUB", "Throws `IllegalArgumentException` if what is not 0 to 2"})
    private static void promise16FirstNamed() {
        wrongNumbers("vat, and what", (x, n) -> x.bath(false, n, 3), 2, 3);
        wrongIndexes(MIDDLE, "tub, and what", (x, n) -> x.bath(true, n, -1), -1, 2, LEAST, MOST);
    }

    @Sentence("Throws `IndexOutOfBoundsException` if there is no such HANK")
    private static void promise17Index() {
        wrongNumbers("hank", (x, n) -> x.ofHank(n, 0), 3, 10);
        wrongNumbers("hank", (x, n) -> x.ofHank(n, 11), 3, 10);
    }

    @Sentence("Throws `IllegalArgumentException` if what is not 0 to 11")
    private static void promise17Argument() {
        wrongArguments(MIDDLE, "what", (x, n) -> x.ofHank(2, n), -1, 12, LEAST, MOST);
    }

    @Sentence({"Throws `IndexOutOfBoundsException` if there is no such HANK", "Throws `IllegalArgumentException` if what is not 0 to 11"})
    private static void promise17FirstNamed() {
        wrongNumbers("hank, and what -1", (x, n) -> x.ofHank(n, -1), 3, 10);
        wrongNumbers("hank, and what 12", (x, n) -> x.ofHank(n, 12), 3, 10);
    }

    @Sentence("Throws `IndexOutOfBoundsException` if there is no such HANK")
    private static void promise18Index() {
        wrongNumbers("hank", Vatcompiler::next, 3, 10);
    }

    @Sentence("Throws `IndexOutOfBoundsException` if there is no such HANK, of both")
    private static void promise19Index() {
        wrongNumbers("one", (x, n) -> x.far(n, 0, 0), 3, 10);
        wrongNumbers("other", (x, n) -> x.far(0, n, 1), 3, 10);
        wrongNumbers("both", (x, n) -> x.far(n, n, 1), 3, 10);
    }

    @Sentence("Throws `IllegalArgumentException` if light is not 0 or 1")
    private static void promise19Argument() {
        wrongArguments(MIDDLE, "light", (x, n) -> x.far(0, 2, n), -1, 2, LEAST, MOST);
        wrongArguments(MIDDLE, "light, of one alone", (x, n) -> x.far(1, 1, n), -1, 2);
    }

    @Sentence({"Throws `IndexOutOfBoundsException` if there is no such HANK, of both", "Throws `IllegalArgumentException` if light is not 0 or 1"})
    private static void promise19FirstNamed() {
        wrongNumbers("one, and light", (x, n) -> x.far(n, 0, 2), 3, 10);
        wrongNumbers("other, and light", (x, n) -> x.far(0, n, -1), 3, 10);
    }

    @Sentence("Throws `IllegalArgumentException` if what is not 0 to 14")
    private static void promise20Argument() {
        wrongArguments(MIDDLE, "what", Vatcompiler::street, -1, 15, LEAST, MOST);
        wrongArguments(EMPTY, "what", Vatcompiler::street, -1, 15);
    }

    // ---- what would be

    @Sentence("Throws `IndexOutOfBoundsException` if there is no such VAT")
    private static void promise21Index() {
        wrongNumbers("vat", (x, n) -> x.can(1, n), 2, 3);
    }

    @Sentence("Throws `IllegalArgumentException` if hanks is no set of HANKS that there are, or is empty")
    private static void promise21Argument() {
        wrongArguments(MIDDLE, "hanks", (x, n) -> x.can(n, 0), 0, -1, 8, 10, 7 + 8, 1 << 30, LEAST, LEAST + 2, MOST);
        wrongArguments(FULL, "hanks", (x, n) -> x.can(n, 0), 0, 1024, 1025, 2047);
        Checks.same("all there are", middle().can(7, 0), false);
        Checks.same("all there are", full().can(1023, 0), false);
    }

    @Sentence({"Throws `IndexOutOfBoundsException` if there is no such VAT",
        "Throws `IllegalArgumentException` if hanks is no set of HANKS that there are, or is empty"})
    private static void promise21FirstNamed() {
        wrongNumbers("vat, and no hanks", (x, n) -> x.can(0, n), 2, 3);
        wrongNumbers("vat, and hanks -1", (x, n) -> x.can(-1, n), 2, 3);
    }

    @Sentence("Throws `IllegalArgumentException` if what is not 0 to 4")
    private static void promise22Argument() {
        wrongArguments(MIDDLE, "what", Vatcompiler::plan, -1, 5, LEAST, MOST);
        wrongArguments(EMPTY, "what", Vatcompiler::plan, -1, 5);
    }

    private static void wrongShades(Refusals on) {
        for (boolean isFar : new boolean[] {true, false}) {
            wrongArguments(on, "one", (x, n) -> x.match(n, 0, 0, isFar), -1, 100, LEAST, MOST);
            wrongArguments(on, "two", (x, n) -> x.match(0, n, 0, isFar), -1, 100, LEAST, MOST);
            wrongArguments(on, "three", (x, n) -> x.match(0, 0, n, isFar), -1, 100, LEAST, MOST);
        }
    }

    @Sentence("Throws `IllegalArgumentException` if a number is not 0 to 99")
    private static void promise24Argument() {
        wrongShades(MIDDLE);
        Vatcompiler x = middle();
        Checks.same("the least", x.match(0, 0, 0, true), 0);
        Checks.same("the most", x.match(99, 99, 99, false), 555);
    }

    @Sentence("Throws `IllegalStateException` if there is no DYE")
    private static void promise24State() {
        EMPTY.state("far", x -> x.match(0, 0, 0, true)).state("amounts", x -> x.match(99, 99, 99, false));
        Vatcompiler x = new Vatcompiler();
        x.dye(0, 1, 1, true, 0);
        Checks.same("one dye", x.match(0, 0, 0, false), 0);
    }

    @Sentence({"Throws `IllegalArgumentException` if a number is not 0 to 99", "Throws `IllegalStateException` if there is no DYE"})
    private static void promise24FirstNamed() {
        wrongShades(EMPTY);
    }

    @Sentence("Throws `IndexOutOfBoundsException` if there is no such HANK")
    private static void promise25Index() {
        wrongNumbers("hank", Vatcompiler::rescue, 3, 10);
    }

    @Sentence("Throws `IndexOutOfBoundsException` if there is no such RECIPE")
    private static void promise26Index() {
        wrongNumbers("recipe", (x, n) -> x.wouldBe(n, 0), 3, 6);
        wrongNumbers("recipe", (x, n) -> x.wouldBe(n, 3), 3, 6);
    }

    @Sentence("Throws `IllegalArgumentException` if what is not 0 to 3")
    private static void promise26Argument() {
        wrongArguments(MIDDLE, "what", (x, n) -> x.wouldBe(0, n), -1, 4, LEAST, MOST);
        wrongArguments(MIDDLE, "what, without lines", (x, n) -> x.wouldBe(2, n), -1, 4);
    }

    @Sentence({"Throws `IndexOutOfBoundsException` if there is no such RECIPE", "Throws `IllegalArgumentException` if what is not 0 to 3"})
    private static void promise26FirstNamed() {
        wrongNumbers("recipe, and what -1", (x, n) -> x.wouldBe(n, -1), 3, 6);
        wrongNumbers("recipe, and what 4", (x, n) -> x.wouldBe(n, 4), 3, 6);
    }
}
