/** The sentences of the description up to part 4, each with a test of its own: at the bound, below it and above it. */
public final class PartsTest {
    public static void main(String[] args) {
        Sentences.run(PartsTest.class);
    }

    private static void shade(String when, Vatcompiler x, int hank, int one, int two, int three) {
        String got = x.ofHank(hank, 1) + " " + x.ofHank(hank, 2) + " " + x.ofHank(hank, 3);
        Checks.same(when + ": shade", got, one + " " + two + " " + three);
    }

    private static void bath(String when, Vatcompiler x, boolean isTub, int number, String due) {
        String got = x.bath(isTub, number, 0) + " " + x.bath(isTub, number, 1) + " " + x.bath(isTub, number, 2);
        Checks.same(when + ": bath", got, due);
    }

    private static void rinse(Vatcompiler x, int hank, int times) {
        for (int k = 0; k < times; k++) {
            x.rinse(hank);
        }
    }

    // ---- ahead of part 1

    @Sentence("All numbers are whole; what is divided is rounded down (nothing that is divided is below 0).")
    private static void part0Divided() {
        Vatcompiler x = Streets.withDye(500, true, 1, "0");
        Streets.weaken(x, 24);
        Checks.same("29 / 6", x.dip(1, 0), 4);
        Vatcompiler y = Streets.withDye(100, true, 1, "0");
        y.dip(1, 0);
        y.pass(1);
        shade("5, and 5 / 2", y, 0, 7, 0, 0);
        Checks.same("7 0 0 is seen as 5 0 1", y.ofHank(0, 11), 6);
    }

    @Sentence("NONE is -1.")
    private static void part0None() {
        Vatcompiler x = Streets.withDye(100, "0");
        Checks.same("no dye", x.bath(true, 0, 0), -1);
        Checks.same("no rescue", x.rescue(0), -1);
        Checks.same("none in the vat then", x.spill(0, 0), -1);
        Vatcompiler y = new Vatcompiler();
        y.dye(0, 1, 1, true, 0);
        Recipes.hank(y, "0");
        Checks.same("no plan", y.plan(0), -1);
    }

    @Sentence("A set is the sum of 2^k for the numbers k in it.")
    private static void part0Set() {
        Vatcompiler x = Streets.withDye(100, false, 0, "0");
        for (int k = 1; k < 10; k++) {
            x.hank(0);
        }
        x.dip(1 + 8 + 512, 0);
        for (int k = 0; k < 10; k++) {
            Checks.same("hank " + k, x.ofHank(k, 4), k == 0 || k == 3 || k == 9 ? 1 : 0);
        }
        Vatcompiler y = new Vatcompiler();
        for (int k = 0; k < 6; k++) {
            y.dye(0, 1, 1, false, 0);
        }
        Recipes.hank(y, "0 2 5 1");
        y.vat();
        y.rules(9, 10);
        for (int dye : new int[] {0, 2, 5, 1}) {
            y.fill(0, dye);
            y.dip(1, 0);
        }
        Checks.same("loose 0, 1, 2, 5", y.ofHank(0, 6), 1 + 2 + 4 + 32);
        Checks.same("foul 0, 2, 5", y.bath(false, 0, 2), 1 + 4 + 32);
    }

    @Sentence("X by X is by rising numbers; where one of several is taken and nothing else is said, it is that with the "
        + "smallest number.")
    private static void part0Smallest() {
        Vatcompiler x = Streets.withDye(100, "r");
        x.dye(300, 1, 1, true, 0);
        x.dye(200, 1, 1, true, 0);
        x.dye(200, 1, 1, true, 0);
        x.hank(Recipes.tell(x, 10, 0, 0, "r"));
        x.rules(4, 9);
        x.rinse(1);
        Checks.same("2 and 3 are as near: the smaller", x.rescue(1), 2);
    }

    @Sentence("A method that throws an exception changes nothing.")
    private static void part0ThrowsAndChangesNothing() {
        Vatcompiler x = Streets.withDye(100, "0*2");
        String before = Answers.all(x);
        Checks.throwsState("a dip that the second one can not", () -> {
            x.hank(0);
            x.dip(1, 0);
            x.dip(1, 0);
            x.dip(3, 0);
        });
        Checks.same("of the second nothing", x.ofHank(1, 4), 0);
        Checks.same("strength", x.bath(false, 0, 1), 28);
        Vatcompiler y = Streets.withDye(100, "0*2");
        Checks.throwsArgument("no such line", () -> y.line(0, 2, 0, 5));
        Checks.throwsArgument("no such hours", () -> y.pass(25));
        Checks.same("nothing", Answers.all(y), before);
    }

    @Sentence("If several exceptions apply, the one that is named first is thrown.")
    private static void part0FirstNamed() {
        Vatcompiler x = Streets.withDye(100, "0");
        Checks.throwsIndex("no recipe, no kind", () -> x.line(1, 4, 0, 0));
        Checks.throwsArgument("no kind, and a hank has it", () -> x.line(0, 4, 0, 0));
        Checks.throwsState("a hank has it", () -> x.line(0, 1, 0, 0));
    }

    @Sentence("HOUR is 0 at first, 500 at most.")
    private static void part0Hour() {
        Vatcompiler x = new Vatcompiler();
        Checks.same("at first", x.street(0), 0);
        for (int k = 0; k < 20; k++) {
            x.pass(24);
        }
        Checks.throwsState("501", () -> x.pass(21));
        Checks.same("as ahead", x.street(0), 480);
        Checks.same("499", x.pass(19), 499);
        Checks.throwsState("501", () -> x.pass(2));
        Checks.same("500", x.pass(1), 500);
        Checks.throwsState("501", () -> x.pass(1));
        Checks.same("500 stays", x.street(0), 500);
    }

    // ---- part 1

    @Sentence("DYES: at most 6, numbered from 0,")
    private static void part1Dyes() {
        Vatcompiler x = new Vatcompiler();
        for (int k = 0; k < 6; k++) {
            Checks.same("number", x.dye(0, 1, 1, true, 0), k);
        }
        Checks.throwsState("a seventh", () -> x.dye(0, 1, 1, true, 0));
        Checks.same("six", x.street(1), 6);
        Checks.same("the last one", x.ofDye(5, 3), 1);
    }

    @Sentence("each with a TINT of three numbers (0 to 9 each),")
    private static void part1Tint() {
        Vatcompiler x = new Vatcompiler();
        int[] tints = {0, 9, 10, 100, 987, 999};
        for (int k = 0; k < tints.length; k++) {
            x.dye(tints[k], 1, 1, true, 0);
            Checks.same("first of " + tints[k], x.ofDye(k, 0), tints[k] / 100);
            Checks.same("second of " + tints[k], x.ofDye(k, 1), tints[k] / 10 % 10);
            Checks.same("third of " + tints[k], x.ofDye(k, 2), tints[k] % 10);
        }
        Vatcompiler y = new Vatcompiler();
        Checks.throwsArgument("-1", () -> y.dye(-1, 1, 1, true, 0));
        Checks.throwsArgument("1000", () -> y.dye(1000, 1, 1, true, 0));
    }

    @Sentence("a DEPTH (1 to 9),")
    private static void part1Depth() {
        Vatcompiler x = new Vatcompiler();
        Checks.throwsArgument("0", () -> x.dye(0, 0, 1, true, 0));
        Checks.throwsArgument("10", () -> x.dye(0, 10, 1, true, 0));
        for (int depth : new int[] {1, 2, 8, 9}) {
            Checks.same("depth", x.ofDye(x.dye(0, depth, 1, true, 0), 3), depth);
        }
    }

    @Sentence("a PRICE (1 to 99),")
    private static void part1Price() {
        Vatcompiler x = new Vatcompiler();
        Checks.throwsArgument("0", () -> x.dye(0, 1, 0, true, 0));
        Checks.throwsArgument("100", () -> x.dye(0, 1, 100, true, 0));
        for (int price : new int[] {1, 2, 98, 99}) {
            Checks.same("price", x.ofDye(x.dye(0, 1, price, true, 0), 4), price);
        }
    }

    @Sentence("FAST or not,")
    private static void part1Fast() {
        Vatcompiler x = new Vatcompiler();
        x.dye(0, 1, 1, true, 0);
        x.dye(0, 1, 1, false, 0);
        Checks.same("fast", x.ofDye(0, 5), 1);
        Checks.same("not", x.ofDye(1, 5), 0);
    }

    @Sentence("and SLOW (0 to 3; 0: it brings nothing later).")
    private static void part1Slow() {
        Vatcompiler x = new Vatcompiler();
        Checks.throwsArgument("-1", () -> x.dye(0, 1, 1, true, -1));
        Checks.throwsArgument("4", () -> x.dye(0, 1, 1, true, 4));
        for (int slow = 0; slow <= 3; slow++) {
            Checks.same("slow", x.ofDye(x.dye(0, 1, 1, true, slow), 6), slow);
        }
        Vatcompiler y = Streets.withDye(200, true, 0, "0");
        y.dip(1, 0);
        Checks.same("nothing is to come", y.ofHank(0, 7), 0);
        y.pass(4);
        shade("nothing comes", y, 0, 10, 0, 0);
    }

    @Sentence("A SHADE is three numbers, 0 at first, 99 at most (what is above is 99).")
    private static void part1ShadeByDips() {
        Checks.same("45 + 45 + 4 + 4", behindFourDips(24), 98);
        Checks.same("45 + 45 + 5 + 4", behindFourDips(20), 99);
        Checks.same("45 + 45 + 5 + 5", behindFourDips(0), 99);
        Vatcompiler x = Streets.withDye(999, "0*4");
        shade("at first", x, 0, 0, 0, 0);
        for (int k = 0; k < 4; k++) {
            x.dip(1, 0);
        }
        shade("all three", x, 0, 99, 99, 99);
    }

    private static int behindFourDips(int hoursAhead) {
        Vatcompiler x = new Vatcompiler();
        x.dye(900, 1, 1, true, 0);
        x.dye(100, 1, 1, true, 0);
        Recipes.hank(x, "0*2 1*2");
        x.vat();
        x.vat();
        x.fill(1, 1);
        if (hoursAhead > 0) {
            x.pass(hoursAhead);
        }
        x.fill(0, 0);
        x.dip(1, 0);
        x.dip(1, 0);
        x.dip(1, 1);
        x.dip(1, 1);
        return x.ofHank(0, 1);
    }

    @Sentence("A SHADE is three numbers, 0 at first, 99 at most (what is above is 99).")
    private static void part1ShadeByFoul() {
        Vatcompiler x = new Vatcompiler();
        x.dye(999, 1, 1, true, 0);
        x.dye(986, 1, 1, true, 0);
        x.dye(236, 1, 1, true, 0);
        x.dye(0, 1, 1, true, 0);
        x.dye(111, 9, 1, false, 0);
        x.rules(9, 10);
        Recipes.hank(x, "0 1 2 3");
        Recipes.hank(x, "4 3");
        for (int k = 0; k < 3; k++) {
            x.vat();
        }
        x.fill(2, 2);
        x.pass(24);
        x.fill(0, 0);
        x.dip(1, 0);
        x.fill(0, 1);
        x.dip(1, 0);
        x.dip(1, 2);
        shade("5 * 9 and 5 * 9, 8, 6 and 4 * 2, 3, 6", x, 0, 98, 97, 99);
        x.fill(0, 4);
        x.fill(1, 3);
        x.dip(2, 0);
        x.dip(2, 1);
        x.dip(1, 1);
        shade("1 more by what is foul", x, 0, 99, 98, 99);
    }

    @Sentence("A SHADE is three numbers, 0 at first, 99 at most (what is above is 99).")
    private static void part1ShadeBySlow() {
        Vatcompiler x = new Vatcompiler();
        x.dye(999, 1, 1, true, 0);
        x.dye(765, 1, 1, true, 0);
        x.dye(345, 1, 1, true, 1);
        Recipes.hank(x, "0 1 2");
        x.vat();
        x.vat();
        x.fill(1, 2);
        x.pass(24);
        x.fill(0, 0);
        x.dip(1, 0);
        x.fill(0, 1);
        x.dip(1, 0);
        x.dip(1, 1);
        shade("ahead", x, 0, 92, 91, 90);
        x.pass(1);
        shade("6, 8 and 10 come", x, 0, 98, 99, 99);
    }

    @Sentence("By the LIGHT 0 they are seen as they are; by the LIGHT 1 as (3 * the first + the second) / 4, (3 * the "
        + "second + the third) / 4, (3 * the third + the first) / 4.")
    private static void part1Light() {
        seen(0, 0, 0, 0, 0);
        seen(1, 0, 0, 1, 0);
        seen(2, 0, 0, 2, 1);
        seen(3, 0, 0, 3, 2);
        seen(4, 0, 0, 4, 4);
        seen(0, 5, 0, 5, 4);
        seen(0, 0, 7, 7, 6);
        seen(1, 1, 0, 2, 1);
        seen(0, 1, 1, 2, 1);
        seen(1, 0, 1, 2, 1);
        seen(99, 99, 99, 297, 297);
        seen(99, 0, 1, 100, 74 + 25);
        seen(98, 97, 96, 291, 97 + 96 + 96);
        Vatcompiler x = new Vatcompiler();
        x.dye(100, 1, 1, true, 0);
        x.dye(20, 1, 1, true, 0);
        Recipes.hank(x, "0");
        Recipes.hank(x, "1");
        x.vat();
        x.vat();
        x.fill(0, 0);
        x.fill(1, 1);
        x.dip(1, 0);
        x.dip(2, 1);
        Checks.same("5 0 0 and 0 10 0 as they are", x.far(0, 1, 0), 15);
        Checks.same("3 0 1 and 2 7 0", x.far(0, 1, 1), 9);
    }

    /** How far 0 0 0 is from an aim: what its seen numbers are together. */
    private static void seen(int one, int two, int three, int byDay, int byLamp) {
        Vatcompiler x = new Vatcompiler();
        x.hank(Recipes.tell(x, one, two, three, "r"));
        String aim = one + " " + two + " " + three;
        Checks.same(aim + " by the light 0", x.ofHank(0, 10), byDay);
        Checks.same(aim + " by the light 1", x.ofHank(0, 11), byLamp);
    }

    @Sentence("FAR of two SHADES by a LIGHT: what their seen numbers differ by, without signs, together.")
    private static void part1Far() {
        Vatcompiler x = new Vatcompiler();
        x.dye(806, 1, 1, true, 0);
        x.dye(241, 1, 1, true, 0);
        x.hank(Recipes.tell(x, 10, 20, 50, "0"));
        x.hank(Recipes.tell(x, "1"));
        x.vat();
        x.vat();
        x.fill(0, 0);
        x.fill(1, 1);
        x.dip(1, 0);
        x.dip(2, 1);
        Checks.same("40 0 30 and 10 20 50", x.ofHank(0, 10), 30 + 20 + 20);
        Checks.same("30 7 32 and 12 27 40", x.ofHank(0, 11), 18 + 20 + 8);
        Checks.same("40 0 30 and 10 20 5", x.far(0, 1, 0), 30 + 20 + 25);
        Checks.same("the other way", x.far(1, 0, 0), 30 + 20 + 25);
        Checks.same("30 7 32 and 12 16 6", x.far(0, 1, 1), 18 + 9 + 26);
        Checks.same("the other way", x.far(1, 0, 1), 18 + 9 + 26);
        Checks.same("of one alone", x.far(0, 0, 1), 0);
    }

    // ---- part 2

    @Sentence("RECIPES: at most 6, numbered from 0,")
    private static void part2Recipes() {
        Vatcompiler x = new Vatcompiler();
        for (int k = 0; k < 6; k++) {
            Checks.same("number", x.recipe(k, 0, 0), k);
        }
        Checks.throwsState("a seventh", () -> x.recipe(0, 0, 0));
        Checks.same("six", x.street(2), 6);
        Checks.same("the last one", x.ofRecipe(5, 4), 5);
    }

    @Sentence("each of at most 8 LINES:")
    private static void part2Lines() {
        String[] kinds = {"0", "r", "a1", "again1*1"};
        for (String kind : kinds) {
            Vatcompiler x = new Vatcompiler();
            x.dye(0, 1, 1, true, 0);
            Recipes.tell(x, "r r r r r r r");
            Recipes.tell(x, "r r r r r r r r");
            Checks.same("an eighth: " + kind, Recipes.add(x, 0, kind), 8);
            Checks.same("lines", x.ofRecipe(0, 0), 8);
            Checks.throwsState("a ninth: " + kind, () -> Recipes.add(x, 1, kind));
            Checks.same("lines", x.ofRecipe(1, 0), 8);
            Checks.same("steps", x.steps(1), "rrrrrrrr");
        }
    }

    @Sentence("0 DIP a DYE so many times (1 to 4);")
    private static void part2Dip() {
        Vatcompiler x = new Vatcompiler();
        x.dye(0, 1, 1, true, 0);
        x.dye(0, 1, 1, true, 0);
        x.recipe(0, 0, 0);
        x.recipe(0, 0, 0);
        Checks.throwsArgument("0 times", () -> x.line(0, 0, 1, 0));
        Checks.throwsArgument("5 times", () -> x.line(0, 0, 1, 5));
        Checks.same("once", x.line(0, 0, 1, 1), 1);
        Checks.same("4 times", x.line(0, 0, 0, 4), 5);
        Checks.same("3 times", x.line(0, 0, 1, 3), 8);
        Checks.same("twice", x.line(0, 0, 0, 2), 10);
        Checks.same("steps", x.steps(0), "1000011100");
    }

    @Sentence("1 RINSE;")
    private static void part2Rinse() {
        Vatcompiler x = new Vatcompiler();
        x.recipe(0, 0, 0);
        Checks.same("one", x.line(0, 1, 0, 0), 1);
        Checks.same("two", x.line(0, 1, 0, 0), 2);
        Checks.throwsArgument("of something", () -> x.line(0, 1, 1, 0));
        Checks.throwsArgument("once", () -> x.line(0, 1, 0, 1));
        Checks.same("steps", x.steps(0), "rr");
    }

    @Sentence("2 AIR so many HOURS (1 to 4);")
    private static void part2Air() {
        Vatcompiler x = new Vatcompiler();
        Checks.throwsArgument("0 hours", () -> Recipes.tell(x, "a0"));
        Checks.throwsArgument("5 hours", () -> Recipes.tell(x, "a5"));
        Recipes.hank(x, "a1 a2 a3 a4");
        for (int hours = 1; hours <= 4; hours++) {
            Checks.same("hours", x.next(0), "air " + hours);
            x.pass(hours);
        }
        Checks.same("all", x.next(0), "done");
    }

    @Sentence("3 AGAIN: the LINES ahead of it, as many as is told (1 to 3; all of these must be there and none of them "
        + "AGAIN), are done so many times more (1 to 3).")
    private static void part2AgainLines() {
        Vatcompiler x = threeLines();
        Checks.throwsArgument("0 lines", () -> Recipes.add(x, 0, "again0*1"));
        Checks.throwsArgument("4 lines", () -> Recipes.add(x, 0, "again4*1"));
        Recipes.add(x, 0, "again1*1");
        Checks.same("the last one", x.steps(0), "01rr");
        Vatcompiler y = threeLines();
        Recipes.add(y, 0, "again2*1");
        Checks.same("the last two", y.steps(0), "01r1r");
        Vatcompiler z = threeLines();
        Recipes.add(z, 0, "again3*1");
        Checks.same("all three", z.steps(0), "01r01r");
    }

    private static Vatcompiler threeLines() {
        Vatcompiler x = new Vatcompiler();
        x.dye(0, 1, 1, true, 0);
        x.dye(0, 1, 1, true, 0);
        Recipes.tell(x, "0 1 r");
        return x;
    }

    @Sentence("are done so many times more (1 to 3).")
    private static void part2AgainTimes() {
        String[] due = {"01r1r", "01r1r1r", "01r1r1r1r"};
        for (int times = 1; times <= 3; times++) {
            Vatcompiler x = threeLines();
            Checks.same("steps", x.line(0, 3, 2, times), 3 + 2 * times);
            Checks.same(times + " times more", x.steps(0), due[times - 1]);
        }
        Vatcompiler y = threeLines();
        Checks.throwsArgument("0 times", () -> y.line(0, 3, 1, 0));
        Checks.throwsArgument("4 times", () -> y.line(0, 3, 1, 4));
        Checks.same("steps", y.steps(0), "01r");
    }

    @Sentence("all of these must be there")
    private static void part2AgainMustBeThere() {
        for (int lines = 0; lines <= 3; lines++) {
            for (int told = 1; told <= 3; told++) {
                Vatcompiler x = new Vatcompiler();
                Recipes.tell(x, "r r r".substring(0, Math.max(0, 2 * lines - 1)));
                String line = "again" + told + "*1";
                if (told > lines) {
                    Checks.throwsState(line + " behind " + lines, () -> Recipes.add(x, 0, line));
                    Checks.same("lines", x.ofRecipe(0, 0), lines);
                } else {
                    Checks.same(line + " behind " + lines, Recipes.add(x, 0, line), lines + told);
                }
            }
        }
    }

    @Sentence("and none of them AGAIN)")
    private static void part2AgainOfNoAgain() {
        Vatcompiler x = new Vatcompiler();
        Recipes.tell(x, "r again1*1");
        Checks.throwsState("the last one is", () -> Recipes.add(x, 0, "again1*1"));
        Checks.throwsState("the last of two is", () -> Recipes.add(x, 0, "again2*1"));
        Recipes.add(x, 0, "a1");
        Checks.throwsState("the first of two is", () -> Recipes.add(x, 0, "again2*1"));
        Checks.throwsState("the middle of three is", () -> Recipes.add(x, 0, "again3*1"));
        Recipes.add(x, 0, "r");
        Checks.throwsState("the first of three is", () -> Recipes.add(x, 0, "again3*1"));
        Checks.same("as ahead", x.steps(0), "rrar");
        Checks.same("what is behind it", Recipes.add(x, 0, "again2*1"), 6);
        Checks.same("steps", x.steps(0), "rrarar");
    }

    @Sentence("The STEPS of a RECIPE: its LINES written out, each DIP as so many single DIPS, each AGAIN as what it repeats; "
        + "at most 10 (what would make more is refused).")
    private static void part2StepsBySingleLines() {
        for (String kind : new String[] {"0", "r", "a4"}) {
            Vatcompiler x = new Vatcompiler();
            x.dye(0, 1, 1, true, 0);
            Recipes.tell(x, "0*4 0*4 0");
            Checks.same("a tenth: " + kind, Recipes.add(x, 0, kind), 10);
            String before = Answers.all(x);
            Checks.throwsState("an eleventh: " + kind, () -> Recipes.add(x, 0, kind));
            Checks.same("nothing is changed", Answers.all(x), before);
        }
    }

    @Sentence("at most 10 (what would make more is refused).")
    private static void part2StepsByManyDips() {
        for (int times = 1; times <= 4; times++) {
            Vatcompiler x = new Vatcompiler();
            x.dye(0, 1, 1, true, 0);
            Recipes.tell(x, "0*4 0*4");
            String line = "0*" + times;
            if (times <= 2) {
                Checks.same("8 and " + times, Recipes.add(x, 0, line), 8 + times);
            } else {
                Checks.throwsState("8 and " + times, () -> Recipes.add(x, 0, line));
                Checks.same("steps", x.ofRecipe(0, 1), 8);
            }
        }
    }

    @Sentence("at most 10 (what would make more is refused).")
    private static void part2StepsByAgain() {
        steps("0*3 again1*2", 9);
        steps("0*4 0 again2*1", 10);
        steps("0*2 again1*3 r r", 10);
        refused("0*3 0*2", "again1*3");
        refused("0*3", "again1*3");
        refused("0*4 r r", "again3*1");
        refused("r r 0*4 0*3", "again1*1");
        refused("0*4 0*4", "again2*3");
        Vatcompiler x = new Vatcompiler();
        x.dye(0, 1, 1, true, 0);
        Recipes.tell(x, "0*3 0*2");
        Checks.throwsState("11", () -> Recipes.add(x, 0, "again1*3"));
        Checks.same("9 behind it", Recipes.add(x, 0, "again1*2"), 9);
    }

    private static void steps(String lines, int due) {
        Vatcompiler x = new Vatcompiler();
        x.dye(0, 1, 1, true, 0);
        Recipes.tell(x, lines);
        Checks.same(lines + ": steps", x.ofRecipe(0, 1), due);
    }

    private static void refused(String lines, String last) {
        Vatcompiler x = new Vatcompiler();
        x.dye(0, 1, 1, true, 0);
        Recipes.tell(x, lines);
        String before = Answers.all(x);
        Checks.throwsState(lines + " " + last, () -> Recipes.add(x, 0, last));
        Checks.same("nothing is changed", Answers.all(x), before);
    }

    @Sentence("An AIR of several HOURS is one STEP.")
    private static void part2AirIsOneStep() {
        for (int hours = 1; hours <= 4; hours++) {
            Vatcompiler x = new Vatcompiler();
            Recipes.hank(x, "a" + hours);
            Checks.same("steps", x.ofRecipe(0, 1), 1);
            Checks.same("written", x.steps(0), "a");
            x.pass(hours);
            Checks.same("done", x.ofHank(0, 4), 1);
        }
    }

    @Sentence("DIPS is how many STEPS are DIPS.")
    private static void part2Dips() {
        Vatcompiler x = new Vatcompiler();
        x.dye(0, 1, 1, true, 0);
        Recipes.tell(x, "");
        Checks.same("none", x.ofRecipe(0, 2), 0);
        Recipes.tell(x, "r a4");
        Checks.same("none", x.ofRecipe(1, 2), 0);
        Recipes.tell(x, "0*3 r a2 again3*1");
        Checks.same("3 and 3 of 10", x.ofRecipe(2, 2), 6);
        Recipes.tell(x, "0*4 0*4 0*2");
        Checks.same("all", x.ofRecipe(3, 2), 10);
    }

    // ---- part 3

    @Sentence("VATS: at most 3, numbered from 0,")
    private static void part3Vats() {
        Vatcompiler x = new Vatcompiler();
        Checks.throwsIndex("none yet", () -> x.bath(false, 0, 0));
        for (int k = 0; k < 3; k++) {
            Checks.same("number", x.vat(), k);
            int next = k + 1;
            Checks.same("it is there", x.bath(false, k, 0), -1);
            Checks.throwsIndex("no next one", () -> x.bath(false, next, 0));
        }
        Checks.throwsState("a fourth", x::vat);
        Checks.same("three", x.street(3), 3);
    }

    @Sentence("and 2 TUBS.")
    private static void part3Tubs() {
        Vatcompiler x = new Vatcompiler();
        x.vat();
        Checks.throwsIndex("tub -1", () -> x.bath(true, -1, 0));
        Checks.same("tub 0", x.bath(true, 0, 0), -1);
        Checks.same("tub 1", x.bath(true, 1, 0), -1);
        Checks.throwsIndex("tub 2", () -> x.bath(true, 2, 0));
        Checks.throwsIndex("tub -1", () -> x.spill(0, -1));
        Checks.same("tub 0", x.spill(0, 0), -1);
        Checks.same("tub 1", x.spill(0, 1), -1);
        Checks.throwsIndex("tub 2", () -> x.spill(0, 2));
    }

    @Sentence("Each of these is empty (at first), or has a BATH: a DYE, STRENGTH (0 to 30), and FOUL: a set of DYES that bled "
        + "into it.")
    private static void part3Empty() {
        Vatcompiler x = new Vatcompiler();
        x.dye(100, 1, 1, true, 0);
        for (int k = 0; k < 3; k++) {
            x.vat();
            bath("vat " + k, x, false, k, "-1 0 0");
        }
        bath("tub 0", x, true, 0, "-1 0 0");
        bath("tub 1", x, true, 1, "-1 0 0");
        x.fill(1, 0);
        bath("vat 1", x, false, 1, "0 30 0");
        bath("vat 0", x, false, 0, "-1 0 0");
        for (int k = 0; k < 5; k++) {
            x.pass(24);
        }
        bath("of no strength, not empty", x, false, 1, "0 0 0");
    }

    @Sentence("To FILL a VAT with a DYE: the BATH that was there is let out; the new one has STRENGTH 30 and no FOUL; PRICE is "
        + "paid.")
    private static void part3Fill() {
        Vatcompiler x = fouled();
        bath("ahead", x, false, 1, "1 29 1");
        Checks.same("paid for three", x.fill(1, 1), 7 + 20 + 20);
        bath("filled with the same", x, false, 1, "1 30 0");
        Checks.same("paid for four", x.fill(1, 0), 7 + 20 + 20 + 7);
        bath("filled with another", x, false, 1, "0 30 0");
        bath("the other vat", x, false, 0, "0 29 0");
    }

    /** Dye 0 (price 7) bled into dye 1 (price 20) in vat 1; vat 0 holds dye 0. */
    private static Vatcompiler fouled() {
        Vatcompiler x = new Vatcompiler();
        x.dye(100, 5, 7, false, 0);
        x.dye(10, 5, 20, true, 0);
        Recipes.hank(x, "0 1 0 1");
        x.vat();
        x.vat();
        x.fill(0, 0);
        x.fill(1, 1);
        x.dip(1, 0);
        x.dip(1, 1);
        return x;
    }

    @Sentence("To SPILL: a VAT and a TUB change their BATHS.")
    private static void part3Spill() {
        Vatcompiler x = fouled();
        Checks.same("full into empty", x.spill(1, 1), -1);
        bath("vat", x, false, 1, "-1 0 0");
        bath("tub", x, true, 1, "1 29 1");
        bath("the other vat", x, false, 0, "0 29 0");
        bath("the other tub", x, true, 0, "-1 0 0");
        Checks.same("empty with empty", x.spill(1, 0), -1);
        Checks.same("full with full", x.spill(0, 1), 1);
        bath("vat", x, false, 0, "1 29 1");
        bath("tub", x, true, 1, "0 29 0");
        Checks.same("empty into full", x.spill(1, 1), 0);
        bath("vat", x, false, 1, "0 29 0");
        bath("tub", x, true, 1, "-1 0 0");
        Checks.same("nothing is let out", x.street(10), 0);
        Checks.same("nothing is paid", x.street(9), 27);
        x.dip(1, 1);
        bath("it is dipped in where it is", x, false, 1, "0 28 0");
    }

    @Sentence("HANKS: at most 10, numbered from 0, each of a RECIPE, with a SHADE, a set of LOOSE DYES, and its next STEP.")
    private static void part3Hanks() {
        Vatcompiler x = new Vatcompiler();
        Recipes.tell(x, "r");
        Recipes.tell(x, "a1");
        for (int k = 0; k < 10; k++) {
            Checks.same("number", x.hank(k % 2), k);
            Checks.same("recipe", x.ofHank(k, 0), k % 2);
            shade("at first", x, k, 0, 0, 0);
            Checks.same("nothing is loose", x.ofHank(k, 6), 0);
            Checks.same("the first step is next", x.ofHank(k, 4), 0);
        }
        Checks.throwsState("an eleventh", () -> x.hank(0));
        Checks.same("ten", x.street(4), 10);
    }

    @Sentence("One is DONE behind its last STEP.")
    private static void part3Done() {
        Vatcompiler x = Streets.withDye(100, "0*2");
        x.dip(1, 0);
        Checks.same("ahead of the last dip", x.ofHank(0, 5), 0);
        x.dip(1, 0);
        Checks.same("behind the last dip", x.ofHank(0, 5), 1);
        Recipes.hank(x, "r r");
        x.rinse(1);
        Checks.same("ahead of the last rinse", x.ofHank(1, 5), 0);
        x.rinse(1);
        Checks.same("behind the last rinse", x.ofHank(1, 5), 1);
        Recipes.hank(x, "a2");
        x.pass(1);
        Checks.same("ahead of the last hour", x.ofHank(2, 5), 0);
        x.pass(1);
        Checks.same("behind the last hour", x.ofHank(2, 5), 1);
        Checks.same("of all", x.street(5), 3);
    }

    @Sentence("To DIP a HANK in a VAT: its next STEP is a DIP of the DYE of that BATH,")
    private static void part3DipNextStep() {
        Vatcompiler x = new Vatcompiler();
        x.dye(100, 1, 1, true, 0);
        x.dye(10, 1, 1, true, 0);
        x.vat();
        x.vat();
        for (String lines : new String[] {"0", "1", "r 0", "a1 0"}) {
            Recipes.hank(x, lines);
        }
        canNot("an empty vat", x, 1, 0);
        x.fill(0, 0);
        x.spill(0, 0);
        canNot("an empty vat, the bath in a tub", x, 1, 0);
        x.spill(0, 0);
        canNot("another dye", x, 2, 0);
        canNot("a rinse is next", x, 4, 0);
        canNot("an air is next", x, 8, 0);
        Checks.same("a dip of it is next", x.can(1, 0), true);
        Checks.same("gain", x.dip(1, 0), 5);
        canNot("a done one", x, 1, 0);
        x.fill(0, 1);
        canNot("a done one, another dye", x, 1, 0);
        Checks.same("the other one", x.dip(2, 0), 5);
    }

    private static void canNot(String why, Vatcompiler x, int hanks, int vat) {
        long before = x.digest();
        Checks.same(why + ": can", x.can(hanks, vat), false);
        Checks.throwsState(why, () -> x.dip(hanks, vat));
        Checks.same(why + ": nothing is changed", x.digest(), before);
    }

    @Sentence("and STRENGTH is 1 or more.")
    private static void part3DipStrength() {
        Vatcompiler x = Streets.withDye(100, "0*3");
        Streets.weaken(x, 2);
        Checks.same("2", x.can(1, 0), true);
        x.dip(1, 0);
        Checks.same("1", x.can(1, 0), true);
        x.dip(1, 0);
        bath("behind", x, false, 0, "0 0 0");
        canNot("0", x, 1, 0);
        shade("two dips", x, 0, 2, 0, 0);
    }

    @Sentence("GAIN is (STRENGTH + 5) / 6 (5 with 30, 1 with 1).")
    private static void part3Gain() {
        int[] strengths = {30, 29, 26, 25, 24, 23, 20, 19, 18, 14, 13, 12, 8, 7, 6, 5, 2, 1};
        int[] due = {5, 5, 5, 5, 4, 4, 4, 4, 3, 3, 3, 2, 2, 2, 1, 1, 1, 1};
        for (int k = 0; k < strengths.length; k++) {
            Vatcompiler x = Streets.withDye(102, "0");
            Streets.weaken(x, strengths[k]);
            Checks.same("gain by " + strengths[k], x.dip(1, 0), due[k]);
            shade("by " + strengths[k], x, 0, due[k], 0, 2 * due[k]);
        }
    }

    @Sentence("Each number of SHADE grows by GAIN * that of TINT, and by 1 for each DYE in FOUL that has a TINT above 0 there.")
    private static void part3ShadeGrows() {
        Vatcompiler x = new Vatcompiler();
        x.dye(19, 5, 1, false, 0);
        x.dye(1, 5, 1, false, 0);
        x.dye(231, 5, 1, true, 0);
        Recipes.hank(x, "0 1 2 2");
        Recipes.hank(x, "2 2");
        x.vat();
        x.vat();
        x.vat();
        for (int k = 0; k < 3; k++) {
            x.fill(k, k);
        }
        x.dip(2, 2);
        shade("no foul", x, 1, 10, 15, 5);
        x.dip(1, 0);
        x.dip(1, 1);
        shade("0 bleeds now", x, 0, 0, 5, 50);
        x.dip(1, 2);
        shade("0 and 1 bleed now", x, 0, 10, 20, 55);
        x.dip(2, 2);
        shade("0, 1 and 2 more by what is foul", x, 1, 20, 31, 12);
        x.dip(1, 2);
        shade("the same for what it bled itself", x, 0, 20, 36, 62);
    }

    @Sentence("STRENGTH is 1 less.")
    private static void part3DipWeakens() {
        Vatcompiler x = Streets.withDye(0, "0*4 0*4");
        for (int k = 1; k <= 8; k++) {
            x.dip(1, 0);
            Checks.same("behind " + k, x.bath(false, 0, 1), 30 - k);
        }
        Vatcompiler y = Streets.withDye(0, "0");
        Streets.weaken(y, 1);
        y.dip(1, 0);
        Checks.same("behind 1", y.bath(false, 0, 1), 0);
    }

    @Sentence("LOOSE DYES of the HANK other than this one, whose DEPTH is no less than that of this one, are in FOUL from then "
        + "on, and stay LOOSE (by that DIP they do not count).")
    private static void part3BleedByDepth() {
        int[] due = {0, 1, 1};
        for (int depth = 4; depth <= 6; depth++) {
            Vatcompiler x = new Vatcompiler();
            x.dye(100, depth, 1, false, 0);
            x.dye(10, 5, 1, true, 0);
            Recipes.hank(x, "0 1 1");
            x.vat();
            x.fill(0, 0);
            x.dip(1, 0);
            x.fill(0, 1);
            x.dip(1, 0);
            Checks.same("foul by depth " + depth, x.bath(false, 0, 2), due[depth - 4]);
            Checks.same("stays loose", x.ofHank(0, 6), 1);
            shade("by that dip it does not count", x, 0, 5, 5, 0);
            x.dip(1, 0);
            shade("by the next one it does", x, 0, 5 + due[depth - 4], 10, 0);
            Checks.same("still loose", x.ofHank(0, 6), 1);
        }
    }

    @Sentence("LOOSE DYES of the HANK other than this one,")
    private static void part3BleedOther() {
        Vatcompiler x = Streets.withDye(100, false, 0, "0*2");
        x.dip(1, 0);
        x.dip(1, 0);
        Checks.same("loose", x.ofHank(0, 6), 1);
        Checks.same("its own dye is not foul", x.bath(false, 0, 2), 0);
        shade("nor counts", x, 0, 10, 0, 0);
    }

    @Sentence("If the DYE is not FAST, it is LOOSE on the HANK from then on.")
    private static void part3Loose() {
        Vatcompiler x = Streets.withDye(100, true, 0, "0");
        x.dip(1, 0);
        Checks.same("fast", x.ofHank(0, 6), 0);
        Vatcompiler y = Streets.withDye(100, false, 0, "0 r");
        Checks.same("not dipped", y.ofHank(0, 6), 0);
        y.dip(1, 0);
        Checks.same("not fast", y.ofHank(0, 6), 1);
        y.pass(24);
        Checks.same("from then on", y.ofHank(0, 6), 1);
    }

    @Sentence("If its DYE is SLOW, GAIN * TINT / 2 (of each number, rounded down) comes besides, as the SLOW-th HOUR behind that "
        + "begins (4), unless it is RINSED ahead of that.")
    private static void part3Slow() {
        for (int slow = 1; slow <= 3; slow++) {
            Vatcompiler x = Streets.withDye(125, true, slow, "0");
            x.pass(2);
            x.dip(1, 0);
            for (int hour = 0; hour < slow; hour++) {
                shade("slow " + slow + ", hour " + hour, x, 0, 5, 10, 25);
                Checks.same("to come", x.ofHank(0, 7), 1);
                x.pass(1);
            }
            shade("slow " + slow + " comes", x, 0, 7, 15, 37);
            Checks.same("nothing to come", x.ofHank(0, 7), 0);
            x.pass(4);
            shade("once", x, 0, 7, 15, 37);
        }
    }

    @Sentence("GAIN * TINT / 2 (of each number, rounded down)")
    private static void part3SlowHalf() {
        Vatcompiler x = Streets.withDye(123, true, 1, "0");
        Streets.weaken(x, 1);
        x.dip(1, 0);
        shade("at once", x, 0, 1, 2, 3);
        x.pass(1);
        shade("0, 1 and 1 come", x, 0, 1, 3, 4);
        Vatcompiler y = Streets.withDye(913, true, 1, "0");
        Streets.weaken(y, 13);
        y.dip(1, 0);
        y.pass(1);
        shade("27, 3, 9 and 13, 1, 4", y, 0, 40, 4, 13);
    }

    @Sentence("unless it is RINSED ahead of that.")
    private static void part3SlowRinsed() {
        Vatcompiler x = Streets.withDye(200, true, 2, "0*3");
        x.dip(1, 0);
        x.pass(1);
        x.rinse(0);
        x.dip(1, 0);
        x.pass(1);
        shade("rinsed in the last hour ahead", x, 0, 20, 0, 0);
        x.pass(1);
        shade("the one behind the rinse comes", x, 0, 25, 0, 0);
        x.rinse(0);
        shade("a rinse takes nothing that came", x, 0, 25, 0, 0);
    }

    @Sentence("To RINSE a HANK: as its next STEP (which is done by that), or besides (at any time, DONE or not);")
    private static void part3Rinse() {
        Vatcompiler x = Streets.withDye(100, "r 0 a2 r r");
        x.rinse(0);
        Checks.same("as its next step", x.ofHank(0, 4), 1);
        x.rinse(0);
        Checks.same("besides, ahead of a dip", x.ofHank(0, 4), 1);
        x.dip(1, 0);
        x.rinse(0);
        Checks.same("besides, ahead of an air", x.ofHank(0, 4), 2);
        x.pass(1);
        x.rinse(0);
        Checks.same("besides, in an air", x.ofHank(0, 4), 2);
        Checks.same("that goes on", x.next(0), "air 1");
        x.pass(1);
        x.rinse(0);
        Checks.same("one of two", x.ofHank(0, 4), 4);
        x.rinse(0);
        Checks.same("the last one", x.ofHank(0, 4), 5);
        Checks.same("done", x.ofHank(0, 5), 1);
        x.rinse(0);
        Checks.same("besides, done", x.ofHank(0, 4), 5);
    }

    @Sentence("LOOSE DYES and what is still to come by SLOW ones are gone; a measure of water is let out.")
    private static void part3RinseTakes() {
        Vatcompiler x = new Vatcompiler();
        x.dye(200, 1, 1, false, 3);
        x.dye(20, 1, 1, false, 3);
        Recipes.hank(x, "0 1 0");
        x.hank(0);
        x.vat();
        x.vat();
        x.fill(0, 0);
        x.fill(1, 1);
        x.dip(3, 0);
        x.dip(1, 1);
        Checks.same("how many were loose", x.rinse(0), 2);
        Checks.same("none is", x.ofHank(0, 6), 0);
        Checks.same("nothing is to come", x.ofHank(0, 7), 0);
        Checks.same("a measure", x.street(11), 1);
        Checks.same("the other hank keeps its loose one", x.ofHank(1, 6), 1);
        Checks.same("and what is to come", x.ofHank(1, 7), 1);
        x.pass(3);
        shade("rinsed", x, 0, 10, 10, 0);
        shade("not rinsed", x, 1, 15, 0, 0);
        Checks.same("again", x.rinse(0), 0);
        Checks.same("two measures ever", x.street(10), 2);
    }

    /** Ten hanks and a vat of some strength. */
    private static Vatcompiler tenHanks(int strength, String lines) {
        Vatcompiler x = Streets.withDye(100, lines);
        for (int k = 1; k < 10; k++) {
            x.hank(0);
        }
        Streets.weaken(x, strength);
        return x;
    }

    @Sentence("Several HANKS can be DIPPED together: all of them must be able to;")
    private static void part3TogetherAllAble() {
        Vatcompiler x = tenHanks(30, "0*2");
        x.dip(512, 0);
        x.dip(512, 0);
        canNot("the last one can not", x, 1023, 0);
        canNot("the last one can not", x, 512 + 1, 0);
        Checks.same("all but the last one", x.dip(511, 0), 5);
        Vatcompiler y = tenHanks(30, "0");
        y.dip(1, 0);
        canNot("the first one can not", y, 1023, 0);
        Checks.same("all but the first one", y.dip(1022, 0), 5);
    }

    @Sentence("GAIN is by STRENGTH as it was ahead, for all;")
    private static void part3TogetherGain() {
        Vatcompiler x = tenHanks(25, "0");
        Checks.same("gain", x.dip(1023, 0), 5);
        for (int k = 0; k < 10; k++) {
            shade("hank " + k, x, k, 5, 0, 0);
        }
        Vatcompiler y = tenHanks(1, "0");
        Checks.same("gain", y.dip(1023, 0), 1);
        shade("the last one", y, 9, 1, 0, 0);
    }

    @Sentence("STRENGTH is less by 1 for each two of them (rounded up; 0 at least);")
    private static void part3TogetherStrength() {
        int[] less = {0, 1, 1, 2, 2, 3, 3, 4, 4, 5, 5};
        for (int count = 1; count <= 10; count++) {
            Vatcompiler x = tenHanks(30, "0");
            x.dip((1 << count) - 1, 0);
            Checks.same("behind " + count, x.bath(false, 0, 1), 30 - less[count]);
        }
        for (int strength = 1; strength <= 6; strength++) {
            Vatcompiler x = tenHanks(strength, "0");
            x.dip(1023, 0);
            Checks.same("10 in " + strength, x.bath(false, 0, 1), strength == 6 ? 1 : 0);
        }
        Vatcompiler y = tenHanks(1, "0");
        y.dip(7, 0);
        Checks.same("3 in 1", y.bath(false, 0, 1), 0);
    }

    @Sentence("FOUL as it was ahead counts for all.")
    private static void part3TogetherFoul() {
        Vatcompiler x = new Vatcompiler();
        x.dye(1, 5, 1, false, 0);
        x.dye(10, 5, 1, true, 0);
        Recipes.hank(x, "0 1 1");
        x.hank(0);
        Recipes.hank(x, "1 1");
        x.vat();
        x.vat();
        x.fill(0, 0);
        x.fill(1, 1);
        x.dip(1, 0);
        x.dip(2, 0);
        x.rinse(1);
        x.dip(7, 1);
        Checks.same("foul from then on", x.bath(false, 1, 2), 1);
        shade("the one that bled", x, 0, 0, 5, 5);
        shade("the next one: no foul ahead", x, 1, 0, 5, 5);
        shade("the last one: no foul ahead", x, 2, 0, 5, 0);
        x.dip(7, 1);
        shade("then it counts", x, 0, 0, 10, 6);
        shade("for all", x, 1, 0, 10, 6);
        shade("for all", x, 2, 0, 10, 1);
    }

    @Sentence("LOOSE DYES of the HANK other than this one, whose DEPTH is no less than that of this one, are in FOUL from then "
        + "on,")
    private static void part3TogetherBleed() {
        Vatcompiler x = new Vatcompiler();
        x.dye(100, 5, 1, false, 0);
        x.dye(10, 6, 1, false, 0);
        x.dye(1, 5, 1, false, 0);
        x.dye(1, 4, 1, false, 0);
        Recipes.hank(x, "0 2");
        Recipes.hank(x, "1 2");
        Recipes.hank(x, "3 2");
        x.vat();
        x.rules(9, 10);
        for (int dye : new int[] {0, 1, 3}) {
            x.fill(0, dye);
            x.dip(dye == 0 ? 1 : dye == 1 ? 2 : 4, 0);
        }
        x.fill(0, 2);
        x.dip(7, 0);
        Checks.same("of the one 0, of the other 1, of the last none", x.bath(false, 0, 2), 1 + 2);
        Checks.same("loose on the last", x.ofHank(2, 6), 8 + 4);
    }

    // ---- part 4

    @Sentence("An HOUR that goes by: HOUR is 1 more;")
    private static void part4Hour() {
        Vatcompiler x = new Vatcompiler();
        Checks.same("1", x.pass(1), 1);
        Checks.same("2", x.pass(1), 2);
        Checks.same("26", x.pass(24), 26);
        Checks.same("hour", x.street(0), 26);
    }

    @Sentence("what SLOW DYES bring by now is gained, HANK by HANK, in the order in which it came;")
    private static void part4SlowComes() {
        Vatcompiler x = new Vatcompiler();
        x.dye(200, 1, 1, true, 3);
        x.dye(20, 1, 1, true, 1);
        Recipes.hank(x, "0 1 1");
        Recipes.hank(x, "1 0");
        x.vat();
        x.vat();
        x.fill(0, 0);
        x.fill(1, 1);
        x.dip(1, 0);
        x.dip(2, 1);
        x.pass(1);
        shade("the other one's comes", x, 1, 0, 15, 0);
        shade("its own not yet", x, 0, 10, 0, 0);
        x.dip(2, 0);
        x.pass(1);
        x.dip(1, 1);
        x.dip(1, 1);
        Checks.same("three to come", x.ofHank(0, 7), 3);
        shade("at once", x, 0, 10, 20, 0);
        x.pass(1);
        shade("all three come in one hour", x, 0, 15, 30, 0);
        Checks.same("none to come", x.ofHank(0, 7), 0);
        shade("not yet", x, 1, 10, 15, 0);
        x.pass(1);
        shade("the other one's, from an hour later", x, 1, 15, 15, 0);
        Vatcompiler y = Streets.withDye(200, true, 3, "0*2");
        y.dip(1, 0);
        y.pass(1);
        y.dip(1, 0);
        y.pass(3);
        shade("hours in one call are hours", y, 0, 30, 0, 0);
    }

    @Sentence("what SLOW DYES bring by now is gained,")
    private static void part4SlowComesInItsHour() {
        Vatcompiler x = new Vatcompiler();
        x.dye(242, 1, 1, true, 1);
        x.dye(135, 1, 1, true, 3);
        x.dye(21, 1, 1, true, 2);
        Recipes.hank(x, "0 1 2");
        for (int k = 0; k < 3; k++) {
            x.vat();
            x.fill(k, k);
            x.dip(1, k);
        }
        shade("at once", x, 0, 15, 45, 40);
        x.pass(1);
        shade("5 10 5 come", x, 0, 20, 55, 45);
        Checks.same("to come", x.ofHank(0, 7), 2);
        x.pass(1);
        shade("0 5 2 come", x, 0, 20, 60, 47);
        Checks.same("to come", x.ofHank(0, 7), 1);
        x.pass(1);
        shade("2 7 12 come", x, 0, 22, 67, 59);
        Checks.same("to come", x.ofHank(0, 7), 0);
    }

    @Sentence("a HANK whose next STEP is to AIR has aired an HOUR more (as many as are told: the STEP is over);")
    private static void part4Air() {
        for (int hours = 1; hours <= 4; hours++) {
            Vatcompiler x = new Vatcompiler();
            Recipes.hank(x, "a" + hours + " a2 r");
            for (int hour = 0; hour < hours; hour++) {
                Checks.same("aired", x.ofHank(0, 8), hour);
                Checks.same("not over", x.ofHank(0, 4), 0);
                x.pass(1);
            }
            Checks.same("over", x.ofHank(0, 4), 1);
            Checks.same("of the next one none", x.ofHank(0, 8), 0);
            x.pass(1);
            Checks.same("of the next one", x.ofHank(0, 8), 1);
            x.pass(1);
            Checks.same("over", x.ofHank(0, 4), 2);
            x.pass(4);
            Checks.same("a rinse waits", x.ofHank(0, 4), 2);
            Checks.same("and airs nothing", x.ofHank(0, 8), 0);
        }
    }

    @Sentence("a HANK whose next STEP is to AIR has aired an HOUR more")
    private static void part4AirFromItsStepOn() {
        Vatcompiler x = Streets.withDye(100, "0 a2");
        x.hank(0);
        x.pass(3);
        x.dip(1, 0);
        Checks.same("as it begins", x.ofHank(0, 8), 0);
        x.pass(1);
        Checks.same("an hour", x.ofHank(0, 8), 1);
        Checks.same("the other one waits", x.ofHank(1, 8), 0);
        x.dip(2, 0);
        x.pass(1);
        Checks.same("the first is done", x.ofHank(0, 5), 1);
        Checks.same("the other one an hour", x.ofHank(1, 8), 1);
        x.pass(1);
        Checks.same("the other is done", x.ofHank(1, 5), 1);
    }

    @Sentence("STRENGTH of each BATH in a VAT or TUB is 1 less in each fourth HOUR (as HOUR becomes a multiple of 4; 0 at least).")
    private static void part4FourthHour() {
        Vatcompiler x = Streets.withDye(100, "0");
        x.spill(0, 1);
        x.fill(0, 0);
        x.vat();
        int[] due = {30, 30, 30, 30, 29, 29, 29, 29, 28, 28, 28, 28, 27};
        for (int hour = 0; hour < due.length; hour++) {
            Checks.same("vat at hour " + hour, x.bath(false, 0, 1), due[hour]);
            Checks.same("tub at hour " + hour, x.bath(true, 1, 1), due[hour]);
            Checks.same("an empty vat", x.bath(false, 1, 1), 0);
            Checks.same("an empty tub", x.bath(true, 0, 1), 0);
            x.pass(1);
        }
        x.pass(2);
        x.fill(1, 0);
        x.pass(1);
        Checks.same("filled at 15, at 16", x.bath(false, 1, 1), 29);
        x.fill(1, 0);
        x.pass(3);
        Checks.same("filled at 16, at 19", x.bath(false, 1, 1), 30);
        x.pass(24);
        Checks.same("six of them in a day", x.bath(false, 1, 1), 24);
    }

    @Sentence("0 at least).")
    private static void part4StrengthZero() {
        Vatcompiler x = Streets.withDye(100, "0");
        x.spill(0, 0);
        x.fill(0, 0);
        for (int k = 0; k < 4; k++) {
            x.pass(24);
        }
        x.pass(20);
        Checks.same("1", x.bath(false, 0, 1), 1);
        x.pass(4);
        Checks.same("0", x.bath(false, 0, 1), 0);
        x.pass(4);
        Checks.same("not below", x.bath(false, 0, 1), 0);
        Checks.same("nor in a tub", x.bath(true, 0, 1), 0);
    }

    @Sentence("WATER: LIMIT (1 to 9; 4 at first) measures may be let out in an HOUR;")
    private static void part4Limit() {
        Vatcompiler x = new Vatcompiler();
        Recipes.hank(x, "a1");
        Checks.same("at first", x.street(12), 4);
        rinse(x, 0, 4);
        Checks.throwsState("a fifth", () -> x.rinse(0));
        Checks.same("let out", x.street(11), 4);
        for (int limit = 1; limit <= 9; limit++) {
            x.pass(1);
            x.rules(limit, 10);
            rinse(x, 0, limit);
            Checks.throwsState("more than " + limit, () -> x.rinse(0));
            Checks.same("let out", x.street(11), limit);
        }
        Checks.throwsArgument("limit 0", () -> x.rules(0, 10));
        Checks.throwsArgument("limit 10", () -> x.rules(10, 10));
    }

    @Sentence("FILLING a VAT with a BATH lets 2 out")
    private static void part4FillWater() {
        Vatcompiler x = Streets.withDye(100, "0");
        x.fill(0, 0);
        Checks.same("2", x.street(11), 2);
        x.fill(0, 0);
        Checks.same("4", x.street(11), 4);
        Checks.throwsState("6 of 4", () -> x.fill(0, 0));
        x.rules(5, 10);
        Checks.throwsState("6 of 5", () -> x.fill(0, 0));
        x.rules(6, 10);
        x.fill(0, 0);
        Checks.same("6 of 6", x.street(11), 6);
        x.rules(7, 10);
        x.rinse(0);
        Checks.throwsState("9 of 7", () -> x.fill(0, 0));
        x.pass(1);
        x.rules(1, 10);
        Checks.throwsState("2 of 1", () -> x.fill(0, 0));
        x.rules(2, 10);
        x.fill(0, 0);
        Checks.same("2 of 2", x.street(11), 2);
        Checks.same("ever", x.street(10), 9);
    }

    @Sentence("(an empty one: none, that is never refused),")
    private static void part4EmptyNeverRefused() {
        Vatcompiler x = Streets.withDye(100, "0");
        x.vat();
        x.vat();
        rinse(x, 0, 4);
        x.fill(1, 0);
        Checks.same("at the limit, nothing more is let out", x.street(11), 4);
        x.rules(1, 10);
        x.fill(2, 0);
        Checks.same("above a smaller limit", x.street(11), 4);
        Checks.same("ever", x.street(10), 4);
        x.spill(0, 0);
        x.fill(0, 0);
        Checks.same("one that is empty by a spill", x.bath(false, 0, 1), 30);
        Checks.same("let out", x.street(11), 4);
        Checks.throwsState("one with a bath", () -> x.fill(0, 0));
    }

    @Sentence("FILLING a VAT with a BATH lets 2 out (an empty one: none, that is never refused)")
    private static void part4BathOfNoStrengthIsNotEmpty() {
        Vatcompiler x = Streets.withDye(100, "0");
        Streets.weaken(x, 0);
        x.fill(0, 0);
        Checks.same("2", x.street(11), 2);
    }

    @Sentence("a RINSE 1.")
    private static void part4RinseWater() {
        Vatcompiler x = new Vatcompiler();
        Recipes.hank(x, "r");
        x.rinse(0);
        Checks.same("as a step", x.street(11), 1);
        x.rinse(0);
        Checks.same("besides", x.street(11), 2);
        Checks.same("ever", x.street(10), 2);
    }

    @Sentence("What lets water out, so that there would be more than LIMIT, is refused.")
    private static void part4MoreThanLimit() {
        Vatcompiler x = Streets.withDye(100, "r 0");
        x.rules(3, 10);
        x.rinse(0);
        x.fill(0, 0);
        Checks.same("3 of 3", x.street(11), 3);
        Checks.throwsState("4 of 3", () -> x.rinse(0));
        Checks.throwsState("5 of 3", () -> x.fill(0, 0));
        x.rules(1, 10);
        Checks.throwsState("4 of 1", () -> x.rinse(0));
        x.rules(4, 10);
        Checks.throwsState("5 of 4", () -> x.fill(0, 0));
        x.rinse(0);
        Checks.same("4 of 4", x.street(11), 4);
        Checks.same("the refused ones paid nothing", x.street(9), 2);
    }

    @Sentence("(As an HOUR begins, none was let out in it.)")
    private static void part4NewHour() {
        Vatcompiler x = Streets.withDye(100, "0");
        rinse(x, 0, 4);
        Checks.throwsState("a fifth", () -> x.rinse(0));
        x.pass(1);
        Checks.same("none", x.street(11), 0);
        rinse(x, 0, 4);
        Checks.throwsState("a fifth", () -> x.rinse(0));
        Checks.same("ever", x.street(10), 8);
    }
}
