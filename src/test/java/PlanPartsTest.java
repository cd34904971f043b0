/** The sentences of parts 5 and 6 of the description, each with a test of its own: at the bound, below it and above it. */
public final class PlanPartsTest {
    public static void main(String[] args) {
        Sentences.run(PlanPartsTest.class);
    }

    // ---- part 5

    /** Fills, cost, how many fills, plain cost, hanks, needs. */
    private static void plan(String when, Vatcompiler x, String fills, int... due) {
        Checks.same(when + ": fills", x.fills(), fills);
        for (int what = 0; what <= 4; what++) {
            Checks.same(when + ": plan(" + what + ")", x.plan(what), due[what]);
        }
    }

    @Sentence("NEEDS of a HANK: the row of DYES of all its DIPS from its next STEP on, of like ones beside each other only one.")
    private static void part5Needs() {
        Vatcompiler x = Streets.priced(1, 10, 20);
        Recipes.hank(x, "0*2 0 r 0 1 a2 1 0");
        plan("0 1 0", x, "0:0 0:1 0:0", 40, 3, 40, 1, 3);
        x.fill(0, 0);
        x.dip(1, 0);
        plan("one dip is over", x, "0:1 0:0", 30, 2, 40, 1, 3);
        x.dip(1, 0);
        x.dip(1, 0);
        x.rinse(0);
        plan("one dip is left of 0", x, "0:1 0:0", 30, 2, 40, 1, 3);
        x.dip(1, 0);
        plan("1 0", x, "0:1 0:0", 30, 2, 30, 1, 2);
        x.fill(0, 1);
        x.dip(1, 0);
        x.pass(1);
        plan("in an air between like ones", x, "0:0", 10, 1, 30, 1, 2);
        x.pass(1);
        x.dip(1, 0);
        plan("0", x, "0:0", 10, 1, 10, 1, 1);
        x.pass(1);
        x.fill(0, 0);
        x.dip(1, 0);
        plan("done", x, "-", 0, 0, 0, 0, 0);
    }

    @Sentence("A PLAN is for the first 3 HANKS that are not DONE,")
    private static void part5Hanks() {
        Vatcompiler x = Streets.priced(1, 1, 2, 4, 8);
        plan("none", x, "-", 0, 0, 0, 0, 0);
        Recipes.hank(x, "0");
        plan("one", x, "0:0", 1, 1, 1, 1, 1);
        Recipes.hank(x, "1");
        plan("two", x, "0:0 0:1", 3, 2, 3, 2, 2);
        Recipes.hank(x, "2");
        plan("three", x, "0:0 0:1 0:2", 7, 3, 7, 3, 3);
        Recipes.hank(x, "3");
        plan("three of four", x, "0:0 0:1 0:2", 7, 3, 7, 3, 3);
        x.fill(0, 1);
        x.dip(2, 0);
        plan("one in the middle is done", x, "0:0 0:2 0:3", 13, 3, 13, 3, 3);
        x.fill(0, 0);
        x.dip(1, 0);
        plan("two are left", x, "0:2 0:3", 12, 2, 12, 2, 2);
    }

    @Sentence("that are not DONE,")
    private static void part5HankWithoutDipsIsNotDone() {
        Vatcompiler x = Streets.priced(1, 1, 2, 4);
        Recipes.hank(x, "r");
        Recipes.hank(x, "a1");
        Recipes.hank(x, "0");
        Recipes.hank(x, "1");
        plan("two without needs", x, "0:0", 1, 1, 1, 3, 1);
        x.rinse(0);
        plan("one of them is done", x, "0:0 0:1", 3, 2, 3, 3, 2);
    }

    @Sentence("the row of DYES of all its DIPS from its next STEP on,")
    private static void part5NeedsOfEachHank() {
        int[][] orders = {{0, 1, 2}, {1, 2, 0}, {2, 0, 1}};
        for (int[] order : orders) {
            Vatcompiler x = Streets.priced(1, 1, 2, 4, 8, 16, 32);
            for (int k = 0; k < 3; k++) {
                Recipes.hank(x, 2 * k + " " + (2 * k + 1));
            }
            int cost = 63;
            plan("none is begun", x, "0:0 0:1 0:2 0:3 0:4 0:5", 63, 6, 63, 3, 6);
            for (int k = 0; k < 3; k++) {
                int hank = order[k];
                x.pass(1);
                x.fill(0, 2 * hank);
                x.dip(1 << hank, 0);
                cost -= 1 << 2 * hank;
                Checks.same("hank " + hank + " is begun: cost", x.plan(0), cost);
                Checks.same("fills", x.plan(1), 5 - k);
                Checks.same("plain cost", x.plan(2), cost);
            }
            Checks.same("what is left", x.fills(), "0:1 0:3 0:5");
        }
    }

    @Sentence("and for the first 2 VATS (or the one):")
    private static void part5Vats() {
        for (int vats = 1; vats <= 3; vats++) {
            Vatcompiler x = Streets.priced(vats, 10, 20, 40);
            Recipes.hank(x, "0 1 0 2 0 1");
            if (vats == 1) {
                plan("one", x, "0:0 0:1 0:0 0:2 0:0 0:1", 110, 6, 110, 1, 6);
            } else {
                plan("two of " + vats, x, "0:0 1:1 0:2 0:0", 80, 4, 110, 1, 6);
            }
        }
        Vatcompiler y = Streets.priced(3, 10, 20, 40);
        Recipes.hank(y, "0 1");
        y.fill(2, 0);
        plan("what is in a third vat is not there", y, "0:0 0:1", 30, 2, 30, 1, 2);
        y.spill(2, 1);
        plan("nor what is in a tub", y, "0:0 0:1", 30, 2, 30, 1, 2);
        y.spill(1, 1);
        plan("in the second vat it is", y, "0:1", 20, 1, 30, 1, 2);
    }

    @Sentence("a row of FILLS (a VAT, and a DYE that is in none of these VATS then, and that is the next one of the NEEDS of one "
        + "of these HANKS),")
    private static void part5FillsOfWhatIsNext() {
        Vatcompiler ahead = Streets.priced(2, 1, 1);
        Recipes.hank(ahead, "1 0");
        plan("0 is needed, and not next", ahead, "0:1 0:0", 2, 2, 2, 1, 2);
        Vatcompiler x = Streets.priced(2, 1, 1, 1);
        Recipes.hank(x, "0 1 2 0");
        plan("only as they are needed", x, "0:0 1:1 1:2", 3, 3, 4, 1, 4);
        x.fill(0, 2);
        x.fill(1, 2);
        plan("2 is in both, and not next", x, "0:0 0:1 0:0", 3, 3, 4, 1, 4);
        x.pass(1);
        x.fill(0, 0);
        plan("2 is in the one", x, "0:1 0:0", 2, 2, 4, 1, 4);
    }

    @Sentence("by which each of them can have its NEEDS in order: whenever a DYE that is the next one of a HANK's NEEDS is in one "
        + "of these VATS, it has it")
    private static void part5HasWhatIsThere() {
        Vatcompiler x = Streets.priced(2, 1, 2, 4);
        Recipes.hank(x, "0 1 0 1 0 1");
        Recipes.hank(x, "1 0 1 0 1");
        Recipes.hank(x, "1 2 0");
        x.fill(0, 0);
        x.fill(1, 1);
        plan("2 over 1, 0 stays", x, "1:2", 4, 1, 24, 3, 14);
        Vatcompiler y = Streets.priced(1, 1, 2, 4);
        Recipes.hank(y, "0 1 0");
        Recipes.hank(y, "1 0");
        plan("one fill for both", y, "0:0 0:1 0:0", 4, 3, 7, 2, 5);
    }

    @Sentence("(STRENGTH, FOUL, water, SLOW ones, RINSES and AIR do not matter; BATHS that are there now count).")
    private static void part5WhatDoesNotMatter() {
        Vatcompiler x = new Vatcompiler();
        x.dye(100, 9, 10, false, 3);
        x.dye(10, 1, 20, false, 3);
        x.vat();
        x.vat();
        Recipes.hank(x, "0 r 1 a4 0 r 1 0");
        x.hank(0);
        x.fill(0, 0);
        x.fill(1, 1);
        x.dip(1, 0);
        x.rinse(0);
        x.dip(1, 1);
        plan("both are there", x, "-", 0, 0, 110, 2, 8);
        for (int k = 0; k < 5; k++) {
            x.pass(24);
        }
        Checks.same("strength", x.bath(false, 0, 1), 0);
        plan("of no strength", x, "-", 0, 0, 110, 2, 8);
        x.rules(1, 10);
        x.rinse(1);
        x.spill(1, 0);
        plan("no water is left in the hour", x, "1:1", 20, 1, 110, 2, 8);
        Vatcompiler y = Streets.priced(2, 10, 20);
        y.rules(1, 10);
        Recipes.hank(y, "0 1 0 1");
        y.fill(0, 1);
        plan("2 of a limit of 1", y, "1:0", 10, 1, 60, 1, 4);
    }

    @Sentence("Its COST is the PRICES of the DYES.")
    private static void part5Cost() {
        Vatcompiler x = Streets.priced(1, 99, 1);
        Recipes.hank(x, "0 1 0 1");
        plan("each fill", x, "0:0 0:1 0:0 0:1", 200, 4, 200, 1, 4);
    }

    @Sentence("The BEST PLAN has the least COST; of several the fewest FILLS;")
    private static void part5LeastCostThenFewestFills() {
        keepOrFillAgain(5, "0:0 1:1 1:2 1:1 1:2 1:1 1:2", 11, 7);
        keepOrFillAgain(4, "0:0 0:1 1:2 0:0", 10, 4);
        keepOrFillAgain(3, "0:0 0:1 1:2 0:0", 8, 4);
    }

    /** Dye 0 stays in a vat (7 fills: its price and 6), or it is filled twice (4 fills: twice its price and 2). */
    private static void keepOrFillAgain(int price, String fills, int cost, int count) {
        Vatcompiler x = Streets.priced(2, price, 1, 1);
        Recipes.hank(x, "0 1 2 again2*2 0");
        plan("price " + price, x, fills, cost, count, 2 * price + 6, 1, 8);
    }

    @Sentence("of several that which has at the first FILL in which they differ the smaller VAT, then the smaller DYE.")
    private static void part5SmallerVatThenDye() {
        Vatcompiler x = Streets.priced(2, 2, 2, 2, 2);
        Recipes.hank(x, "3");
        Recipes.hank(x, "1");
        plan("all are as good", x, "0:1 0:3", 4, 2, 4, 2, 2);
        Vatcompiler y = Streets.priced(2, 2, 2, 2, 2);
        Recipes.hank(y, "3 1");
        Recipes.hank(y, "1 2 0");
        y.fill(0, 2);
        y.fill(1, 0);
        plan("0:3, 1:1 and 1:3 are as good, 0:1 is not", y, "0:3 0:1 0:2", 6, 3, 10, 2, 5);
        Vatcompiler z = Streets.priced(2, 2, 2, 2);
        Recipes.hank(z, "1 0");
        Recipes.hank(z, "2 0");
        z.fill(0, 0);
        plan("the smaller vat is needed", z, "1:1 1:2", 4, 2, 8, 2, 4);
    }

    @Sentence("Without VATS there is none, unless no NEEDS are left (then it is empty).")
    private static void part5WithoutVats() {
        Vatcompiler x = Streets.priced(0, 10);
        plan("no hanks", x, "-", 0, 0, 0, 0, 0);
        Recipes.hank(x, "r");
        plan("no needs", x, "-", 0, 0, 0, 1, 0);
        Recipes.hank(x, "0");
        plan("a need", x, "none", -1, -1, 10, 2, 1);
        x.vat();
        plan("a vat", x, "0:0", 10, 1, 10, 2, 1);
        x.fill(0, 0);
        x.dip(2, 0);
        plan("a vat, no needs", x, "-", 0, 0, 0, 1, 0);
        x.rinse(0);
        plan("all done", x, "-", 0, 0, 0, 0, 0);
    }

    @Sentence("PLAIN COST: the PRICES of all DYES in the NEEDS of these HANKS, each as often as it is there.")
    private static void part5PlainCost() {
        Vatcompiler x = Streets.priced(2, 99, 99, 99, 99, 99, 99);
        Recipes.hank(x, "0 1 again2*3 0 1");
        Recipes.hank(x, "2 3 again2*3 2 3");
        Recipes.hank(x, "4 5 again2*3 4 5");
        Recipes.hank(x, "0 1");
        Checks.same("30 needs", x.plan(4), 30);
        Checks.same("30 prices", x.plan(2), 2970);
        Checks.same("each pair in two vats", x.plan(0), 594);
        Checks.same("six fills", x.fills(), "0:0 1:1 0:2 1:3 0:4 1:5");
        Vatcompiler y = Streets.priced(1, 99, 99, 99, 99, 99, 99);
        Recipes.hank(y, "0 1 again2*3 0 1");
        Recipes.hank(y, "2 3 again2*3 2 3");
        Recipes.hank(y, "4 5 again2*3 4 5");
        Checks.same("30 fills", y.plan(1), 30);
        Checks.same("as dear as can be", y.plan(0), 2970);
        Checks.same("the smaller dye first", y.fills(), "0:0 0:1 0:0 0:1 0:0 0:1 0:0 0:1 0:0 0:1 0:2 0:3 0:2 0:3 0:2 0:3 0:2 0:3 "
            + "0:2 0:3 0:4 0:5 0:4 0:5 0:4 0:5 0:4 0:5 0:4 0:5");
    }

    // ---- part 6

    @Sentence("An AIM of a RECIPE is a SHADE.")
    private static void part6Aim() {
        Vatcompiler x = new Vatcompiler();
        x.recipe(0, 1, 99);
        x.recipe(99, 98, 0);
        int[] due = {0, 1, 99, 99, 98, 0};
        for (int k = 0; k < due.length; k++) {
            Checks.same("number", x.ofRecipe(k / 3, 4 + k % 3), due[k]);
        }
        Checks.throwsArgument("100", () -> x.recipe(100, 0, 0));
        Checks.throwsArgument("100", () -> x.recipe(0, 100, 0));
        Checks.throwsArgument("100", () -> x.recipe(0, 0, 100));
        Checks.throwsArgument("-1", () -> x.recipe(-1, 0, 0));
        Checks.throwsArgument("-1", () -> x.recipe(0, -1, 0));
        Checks.throwsArgument("-1", () -> x.recipe(0, 0, -1));
    }

    @Sentence("A HANK that is DONE is GOOD, if FAR of its SHADE from the AIM of its RECIPE is no more than the BAND (10 at first) "
        + "by each of both LIGHTS; a PAIR by the LIGHT 0 alone; a SECOND otherwise.")
    private static void part6Standing() {
        int[] nearByDay = {3, 3, 3, 3, 2, 1, 1};
        Vatcompiler x = Streets.dippedOnce(111, 4, 4, 3);
        Checks.same("by the light 0", x.ofHank(0, 10), 4);
        Checks.same("by the light 1", x.ofHank(0, 11), 5);
        for (int band = 0; band < nearByDay.length; band++) {
            x.rules(4, band);
            Checks.same("4 and 5 by a band of " + band, x.ofHank(0, 9), nearByDay[band]);
        }
        int[] nearByLamp = {3, 3, 3, 3, 1, 1};
        Vatcompiler y = Streets.dippedOnce(111, 4, 6, 3);
        Checks.same("by the light 0", y.ofHank(0, 10), 4);
        Checks.same("by the light 1", y.ofHank(0, 11), 3);
        for (int band = 0; band < nearByLamp.length; band++) {
            y.rules(4, band);
            Checks.same("4 and 3 by a band of " + band, y.ofHank(0, 9), nearByLamp[band]);
        }
    }

    @Sentence("is no more than the BAND (10 at first)")
    private static void part6BandAtFirst() {
        Checks.same("9", Streets.dippedOnce(100, 14, 0, 0).ofHank(0, 9), 1);
        Checks.same("10", Streets.dippedOnce(100, 15, 0, 0).ofHank(0, 9), 1);
        Checks.same("11", Streets.dippedOnce(100, 16, 0, 0).ofHank(0, 9), 3);
        Checks.same("10, and 11 by the light 1", Streets.dippedOnce(111, 2, 2, 1).ofHank(0, 9), 2);
        Vatcompiler x = Streets.dippedOnce(0, 0, 0, 0);
        x.rules(4, 0);
        Checks.same("0 by a band of 0", x.ofHank(0, 9), 1);
        Vatcompiler y = Streets.dippedOnce(0, 99, 0, 0);
        y.rules(4, 99);
        Checks.same("99 by a band of 99", y.ofHank(0, 9), 1);
        Vatcompiler z = Streets.dippedOnce(0, 99, 1, 0);
        z.rules(4, 99);
        Checks.same("100 by a band of 99", z.ofHank(0, 9), 3);
    }

    @Sentence("A HANK that is DONE is GOOD,")
    private static void part6NotDone() {
        Vatcompiler x = Streets.withDye(0, "0 r");
        Checks.same("near, not begun", x.ofHank(0, 9), 0);
        x.dip(1, 0);
        Checks.same("near, not done", x.ofHank(0, 9), 0);
        Checks.same("none is good", x.street(6), 0);
        x.rinse(0);
        Checks.same("done", x.ofHank(0, 9), 1);
        Checks.same("one is good", x.street(6), 1);
    }

    @Sentence("(What is still to come by SLOW DYES does not matter.)")
    private static void part6ToComeDoesNotMatter() {
        Vatcompiler x = new Vatcompiler();
        x.dye(300, 1, 1, true, 1);
        x.hank(Recipes.tell(x, 10, 0, 0, "0"));
        x.hank(Recipes.tell(x, 27, 0, 0, "0"));
        x.vat();
        x.fill(0, 0);
        x.dip(3, 0);
        Checks.same("15 is near to 10", x.ofHank(0, 9), 1);
        Checks.same("15 is not near to 27", x.ofHank(1, 9), 3);
        x.pass(1);
        Checks.same("22 is not near to 10", x.ofHank(0, 9), 3);
        Checks.same("22 is near to 27", x.ofHank(1, 9), 1);
    }

    @Sentence("A MATCH for a SHADE: amounts of 0 to 5 of each of the first 3 DYES (or as many as there are):")
    private static void part6MatchAmounts() {
        Vatcompiler x = new Vatcompiler();
        x.dye(100, 1, 1, true, 0);
        for (int k = 0; k <= 6; k++) {
            Checks.same("one dye for " + k, x.match(k, 0, 0, false), Math.min(5, k));
        }
        x.dye(10, 1, 1, true, 0);
        Checks.same("two dyes", x.match(4, 5, 0, false), 45);
        Checks.same("two dyes", x.match(6, 6, 0, false), 55);
        x.dye(1, 1, 1, true, 0);
        Checks.same("three dyes", x.match(5, 4, 5, false), 545);
        Checks.same("three dyes", x.match(6, 6, 6, false), 555);
        Checks.same("3 by each light", x.match(6, 6, 6, true), 6);
        x.dye(222, 1, 1, true, 0);
        Checks.same("a fourth dye is not mixed", x.match(6, 6, 6, false), 555);
    }

    @Sentence("what they make is, for each number, the sum of amount * TINT, 99 at most.")
    private static void part6MatchMakes() {
        Vatcompiler x = new Vatcompiler();
        for (int k = 0; k < 3; k++) {
            x.dye(789, 1, 1, true, 0);
        }
        Checks.same("13 of them make 91 99 99", x.match(91, 99, 99, false), 355);
        Checks.same("14 of them make 98 99 99", x.match(98, 99, 99, false), 455);
        Checks.same("no farther", x.match(98, 99, 99, true), 0);
        Checks.same("15 of them make 99 99 99", x.match(99, 99, 99, false), 555);
        Checks.same("no farther", x.match(99, 99, 99, true), 0);
        Vatcompiler z = new Vatcompiler();
        z.dye(912, 1, 1, true, 0);
        z.dye(31, 1, 1, true, 0);
        Checks.same("18 2 4 and 0 9 3", z.match(18, 11, 7, false), 23);
        Checks.same("no farther", z.match(18, 11, 7, true), 0);
    }

    @Sentence("The BEST MATCH is the least FAR by both LIGHTS together,")
    private static void part6MatchByBothLights() {
        Vatcompiler x = new Vatcompiler();
        x.dye(2, 1, 9, true, 0);
        x.dye(136, 1, 9, true, 0);
        Checks.same("10 is nearer by the light 0, 30 by the light 1", x.match(12, 1, 2, false), 20);
        Checks.same("15 and 10", x.match(12, 1, 2, true), 25);
    }

    @Sentence("then the least PRICES * amounts,")
    private static void part6MatchByPrice() {
        int[] due = {10, 2, 2};
        for (int price = 1; price <= 3; price++) {
            Vatcompiler x = new Vatcompiler();
            x.dye(200, 1, price, true, 0);
            x.dye(100, 1, 1, true, 0);
            Checks.same(price + " once, or 1 twice", x.match(2, 0, 0, false), due[price - 1]);
        }
        Vatcompiler y = new Vatcompiler();
        y.dye(200, 1, 3, true, 0);
        y.dye(100, 1, 1, true, 0);
        Checks.same("nearer goes ahead of cheaper", y.match(6, 0, 0, false), 14);
        Vatcompiler z = Streets.priced(0, 5, 3, 4, 1);
        Checks.same("a fourth price does not count", z.match(2, 0, 0, false), 20);
        Checks.same("0 0 0 for nothing", y.match(0, 0, 0, false), 0);
    }

    @Sentence("then the smallest number of the amounts, written one behind the other (that of the DYE 0 first).")
    private static void part6MatchBySmallestNumber() {
        Vatcompiler x = Streets.priced(0, 1, 1, 1);
        Checks.same("one", x.match(1, 0, 0, false), 1);
        Checks.same("five", x.match(5, 0, 0, false), 5);
        Checks.same("six", x.match(6, 0, 0, false), 15);
        Checks.same("eleven", x.match(11, 0, 0, false), 155);
        Vatcompiler y = Streets.priced(0, 1, 2, 1);
        Checks.same("six, without the dear one", y.match(6, 0, 0, false), 105);
        Vatcompiler z = Streets.priced(0, 2, 2);
        Checks.same("seven of two", z.match(7, 0, 0, false), 25);
    }

    @Sentence("A RESCUE of a HANK that is a SECOND: the DYE by one DIP of which in a fresh BATH it would be nearest to its AIM (by "
        + "both LIGHTS together), if that is nearer than it is.")
    private static void part6RescueByBothLights() {
        Vatcompiler x = new Vatcompiler();
        x.dye(320, 1, 1, true, 0);
        x.dye(133, 1, 1, true, 0);
        x.dye(23, 1, 1, true, 0);
        x.hank(Recipes.tell(x, 3, 14, 2, "r"));
        x.rules(4, 0);
        Checks.same("not done", x.rescue(0), -1);
        x.rinse(0);
        Checks.same("31, 32 and 32; 1 is nearer by the light 0, 2 by the light 1", x.rescue(0), 0);
    }

    @Sentence("it would be nearest to its AIM")
    private static void part6RescueFromItsShade() {
        int[] tints = {100, 10, 1};
        for (int k = 0; k < 3; k++) {
            Vatcompiler x = Streets.dippedOnce(246, k == 0 ? 15 : 10, k == 1 ? 25 : 20, k == 2 ? 35 : 30);
            for (int tint : tints) {
                x.dye(tint, 1, 1, true, 0);
            }
            x.rules(4, 0);
            Checks.same("from 10 20 30", x.rescue(0), 1 + k);
        }
    }

    @Sentence("in a fresh BATH")
    private static void part6RescueInAFreshBath() {
        Vatcompiler x = new Vatcompiler();
        x.dye(900, 1, 1, false, 0);
        x.dye(100, 1, 1, true, 0);
        x.hank(Recipes.tell(x, 95, 0, 0, "0*2"));
        x.rules(4, 0);
        x.vat();
        x.fill(0, 0);
        x.dip(1, 0);
        x.dip(1, 0);
        x.fill(0, 1);
        for (int k = 0; k < 5; k++) {
            x.pass(24);
        }
        Checks.same("the vat has no strength", x.bath(false, 0, 1), 0);
        Checks.same("90 and 5, and no foul", x.rescue(0), 1);
    }

    @Sentence("if that is nearer than it is.")
    private static void part6RescueNearer() {
        int[] due = {-1, -1, 0, 0, 0};
        for (int aim = 6; aim <= 10; aim++) {
            Vatcompiler x = Streets.dippedOnce(100, aim, 0, 0);
            x.rules(4, 0);
            Checks.same("5 or 10 for " + aim, x.rescue(0), due[aim - 6]);
        }
        Vatcompiler y = Streets.dippedOnce(100, 7, 0, 0);
        y.dye(0, 1, 1, true, 0);
        y.rules(4, 0);
        Checks.same("as near is not nearer", y.rescue(0), -1);
        Vatcompiler z = Streets.dippedOnce(900, 99, 0, 0);
        z.dye(990, 1, 1, true, 0);
        z.rules(4, 0);
        Checks.same("90 0 0 is nearer to 99 0 0 than 90 45 0", z.rescue(0), 0);
    }

    @Sentence("A RESCUE of a HANK that is a SECOND:")
    private static void part6RescueOfSecondsAlone() {
        Vatcompiler x = Streets.dippedOnce(100, 10, 0, 0);
        Checks.same("good", x.rescue(0), -1);
        x.rules(4, 5);
        Checks.same("good at the band", x.rescue(0), -1);
        x.rules(4, 4);
        Checks.same("a second", x.rescue(0), 0);
        Vatcompiler y = Streets.dippedOnce(111, 4, 4, 3);
        y.dye(0, 1, 1, true, 0);
        y.rules(4, 4);
        Checks.same("a pair", y.ofHank(0, 9), 2);
        Checks.same("a pair has none", y.rescue(0), -1);
    }
}
