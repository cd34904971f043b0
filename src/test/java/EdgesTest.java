import java.math.BigInteger;
import java.util.function.Consumer;
import java.util.function.IntUnaryOperator;

/** What the promises say beside the description, sentence by sentence, at its edges. */
public final class EdgesTest {
    public static void main(String[] args) {
        Sentences.run(EdgesTest.class);
    }

    private static Vatcompiler empty() {
        return new Vatcompiler();
    }

    /** Fast dyes of these tints, depth and price 1, a vat for each of the first three, filled with it. */
    private static Vatcompiler withDyes(int... tints) {
        Vatcompiler x = empty();
        for (int k = 0; k < tints.length; k++) {
            x.dye(tints[k], 1, 1, true, 0);
            if (k < 3) {
                x.vat();
                x.fill(k, k);
            }
        }
        return x;
    }

    /** What is answered for each what from 0 on. */
    private static String numbers(int count, IntUnaryOperator ask) {
        StringBuilder text = new StringBuilder();
        for (int what = 0; what < count; what++) {
            text.append(what == 0 ? "" : " ").append(ask.applyAsInt(what));
        }
        return text.toString();
    }

    @Sentence("Creates a street without DYES.")
    private static void promise1New() {
        Vatcompiler x = empty();
        Checks.same("all of a new one", numbers(15, x::street), "0 0 0 0 0 0 0 0 0 0 0 0 4 10 0");
        Checks.same("plan", numbers(5, x::plan), "0 0 0 0 0");
        Checks.same("fills", x.fills(), "-");
        Checks.same("sound", x.isSound(), true);
        Checks.throwsIndex("no dye", () -> x.ofDye(0, 0));
        Checks.throwsIndex("no recipe", () -> x.ofRecipe(0, 0));
        Checks.throwsIndex("no vat", () -> x.bath(false, 0, 0));
        Checks.throwsIndex("no hank", () -> x.ofHank(0, 0));
        Checks.throwsState("no match", () -> x.match(0, 0, 0, true));
        Vatcompiler other = withDyes(100);
        Checks.same("another one is another one", x.street(1), 0);
        Checks.same("and has its own", other.street(1), 1);
    }

    @Sentence({"the three numbers of its TINT as digits, the first one first", "Returns its number."})
    private static void promise2Dye() {
        Vatcompiler x = empty();
        int[] tints = {0, 7, 70, 700, 123, 999};
        for (int k = 0; k < tints.length; k++) {
            Checks.same("number", x.dye(tints[k], 1 + k, 99 - k, k % 2 == 0, k % 4), k);
        }
        String[] due = {"0 0 0 1 99 1 0 0", "0 0 7 2 98 0 1 0", "0 7 0 3 97 1 2 0", "7 0 0 4 96 0 3 0", "1 2 3 5 95 1 0 0",
            "9 9 9 6 94 0 1 0"};
        for (int k = 0; k < due.length; k++) {
            int dye = k;
            Checks.same("dye " + k, numbers(8, what -> x.ofDye(dye, what)), due[k]);
        }
    }

    @Sentence({"Tells a RECIPE without LINES.", "Returns its number."})
    private static void promise3Recipe() {
        Vatcompiler x = empty();
        Checks.same("number", x.recipe(0, 50, 99), 0);
        Checks.same("number", x.recipe(99, 1, 98), 1);
        Checks.same("without lines", numbers(8, what -> x.ofRecipe(0, what)), "0 0 0 0 0 50 99 0");
        Checks.same("without lines", numbers(8, what -> x.ofRecipe(1, what)), "0 0 0 0 99 1 98 0");
        Checks.same("steps", x.steps(1), "-");
    }

    @Sentence("Tells one LINE more of a RECIPE, if no HANK has it.")
    private static void promise4OfNoHank() {
        Vatcompiler x = withDyes(100);
        Recipes.tell(x, "0");
        Recipes.tell(x, "0");
        x.hank(1);
        Checks.same("one that no hank has", Recipes.add(x, 0, "0"), 2);
        Checks.throwsState("one that a hank has", () -> Recipes.add(x, 1, "0"));
        x.dip(1, 0);
        Checks.same("the hank is done", x.ofHank(0, 5), 1);
        Checks.throwsState("a hank has it, done or not", () -> Recipes.add(x, 1, "0"));
        Checks.same("one line", x.ofRecipe(1, 0), 1);
    }

    @Sentence({"of DIP the DYE, of AGAIN how many LINES, otherwise 0",
        "of DIP, AIR and AGAIN how often, or how many HOURS, otherwise 0"})
    private static void promise4WhatAndTimes() {
        Vatcompiler x = withDyes(100, 10, 1, 0, 0, 0);
        x.recipe(0, 0, 0);
        Checks.same("the last dye", x.line(0, 0, 5, 1), 1);
        Checks.throwsIndex("no dye 6", () -> x.line(0, 0, 6, 1));
        Checks.throwsIndex("no dye -1", () -> x.line(0, 0, -1, 1));
        Checks.throwsArgument("a rinse of 1", () -> x.line(0, 1, 1, 0));
        Checks.throwsArgument("a rinse of -1", () -> x.line(0, 1, -1, 0));
        Checks.throwsArgument("a rinse, 1 time", () -> x.line(0, 1, 0, 1));
        Checks.throwsArgument("a rinse, -1 times", () -> x.line(0, 1, 0, -1));
        Checks.throwsArgument("an air of 1", () -> x.line(0, 2, 1, 1));
        Checks.throwsArgument("an air of -1", () -> x.line(0, 2, -1, 1));
        Checks.throwsArgument("a rinse of no dye is no dip", () -> x.line(0, 1, 6, 0));
        Checks.throwsArgument("an air of no dye is no dip", () -> x.line(0, 2, 6, 1));
        Checks.throwsArgument("an again of no dye is no dip", () -> x.line(0, 3, 6, 1));
        Checks.same("a rinse", x.line(0, 1, 0, 0), 2);
        Checks.same("an air", x.line(0, 2, 0, 1), 3);
        Checks.same("steps", x.steps(0), "5ra");
    }

    @Sentence("Returns how many STEPS it has then.")
    private static void promise4Steps() {
        Vatcompiler x = withDyes(100);
        x.recipe(0, 0, 0);
        Checks.same("4 of a dip", Recipes.add(x, 0, "0*4"), 4);
        Checks.same("1 of a rinse", Recipes.add(x, 0, "r"), 5);
        Checks.same("1 of an air", Recipes.add(x, 0, "a4"), 6);
        Checks.same("2 again, twice", Recipes.add(x, 0, "again2*2"), 10);
        Checks.same("steps", x.steps(0), "0000rarara");
    }

    @Sentence({"Sets up a VAT, empty.", "Returns its number."})
    private static void promise5Vat() {
        Vatcompiler x = empty();
        for (int k = 0; k < 3; k++) {
            int vat = k;
            Checks.same("number", x.vat(), k);
            Checks.same("empty", numbers(3, what -> x.bath(false, vat, what)), "-1 0 0");
        }
    }

    @Sentence("Returns what was paid ever.")
    private static void promise6Paid() {
        Vatcompiler x = empty();
        x.dye(0, 1, 99, true, 0);
        x.dye(0, 1, 1, true, 0);
        x.vat();
        Checks.same("99", x.fill(0, 0), 99);
        Checks.same("100", x.fill(0, 1), 100);
        x.pass(4);
        Checks.same("199", x.fill(0, 0), 199);
        Checks.same("ever", x.street(9), 199);
    }

    @Sentence("Returns the DYE in the VAT then; NONE, if it is empty.")
    private static void promise7Dye() {
        Vatcompiler x = withDyes(100, 10);
        Checks.same("empty", x.spill(1, 0), -1);
        Checks.same("dye 1", x.spill(0, 0), 1);
        Checks.same("dye 0", x.spill(1, 0), 0);
        Checks.same("empty", x.spill(1, 1), -1);
        Checks.same("both are empty", x.spill(1, 0), -1);
    }

    @Sentence({"Tells a HANK.", "Returns its number."})
    private static void promise8Hank() {
        Vatcompiler x = withDyes(100);
        Recipes.tell(x, 1, 2, 3, "0");
        Recipes.tell(x, 4, 5, 6, "");
        Recipes.tell(x, 7, 8, 9, "0 r");
        Checks.same("number", x.hank(2), 0);
        Checks.same("number", x.hank(0), 1);
        Checks.throwsState("without lines", () -> x.hank(1));
        Checks.same("of a line alone", numbers(10, what -> x.ofHank(1, what)), "0 0 0 0 0 0 0 0 0 0");
        Checks.same("far by the light 0", x.ofHank(0, 10), 24);
        Checks.same("7 8 8 by the light 1", x.ofHank(0, 11), 23);
    }

    @Sentence({"DIPS HANKS together.", "Returns GAIN."})
    private static void promise9Gain() {
        Vatcompiler x = withDyes(100);
        Recipes.tell(x, "0*4 0*4");
        for (int k = 0; k < 10; k++) {
            x.hank(0);
        }
        int[] due = {5, 5, 4, 3, 2, 1};
        for (int k = 0; k < due.length; k++) {
            Checks.same("strength", x.bath(false, 0, 1), 30 - 5 * k);
            Checks.same("gain", x.dip(1023, 0), due[k]);
        }
        Checks.throwsState("no strength", () -> x.dip(1, 0));
        Checks.same("shade of the last one", x.ofHank(9, 1), 20);
        Checks.same("dips ever", x.street(14), 60);
    }

    @Sentence("Returns how many DYES were LOOSE.")
    private static void promise10Loose() {
        Vatcompiler x = empty();
        for (int k = 0; k < 6; k++) {
            x.dye(0, 9 - k, 1, k == 2, 0);
        }
        Recipes.hank(x, "0 1 2 0 3 4 5 1");
        x.vat();
        x.rules(9, 10);
        for (int step = 0; step < 8; step++) {
            x.pass(1);
            x.fill(0, x.steps(0).charAt(step) - '0');
            x.dip(1, 0);
            if (step == 2) {
                Checks.same("0 and 1; 2 is fast", x.rinse(0), 2);
                Checks.same("none behind it", x.rinse(0), 0);
            }
        }
        Checks.same("0, 3, 4, 5, 1", x.rinse(0), 5);
        Checks.same("none behind it", x.rinse(0), 0);
    }

    @Sentence({"Lets HOURS go by.", "Returns HOUR then."})
    private static void promise11Hours() {
        Vatcompiler x = empty();
        Checks.same("1", x.pass(1), 1);
        Checks.same("24", x.pass(24), 25);
        Checks.throwsArgument("0", () -> x.pass(0));
        Checks.throwsArgument("25", () -> x.pass(25));
        Checks.same("23", x.pass(23), 48);
        Checks.same("2", x.pass(2), 50);
    }

    @Sentence({"Tells LIMIT and BAND.", "Returns LIMIT before."})
    private static void promise12Rules() {
        Vatcompiler x = empty();
        Checks.same("4 at first", x.rules(1, 0), 4);
        Checks.same("least", x.street(12) + " " + x.street(13), "1 0");
        Checks.same("1", x.rules(9, 99), 1);
        Checks.same("most", x.street(12) + " " + x.street(13), "9 99");
        Checks.throwsArgument("limit 10", () -> x.rules(10, 5));
        Checks.throwsArgument("limit 0", () -> x.rules(0, 5));
        Checks.throwsArgument("band 100", () -> x.rules(5, 100));
        Checks.throwsArgument("band -1", () -> x.rules(5, -1));
        Checks.same("still", x.street(12) + " " + x.street(13), "9 99");
        Checks.same("9", x.rules(9, 98), 9);
        Checks.same("9", x.rules(8, 98), 9);
        Checks.same("8", x.rules(8, 1), 8);
    }

    @Sentence("0 to 2 the numbers of its TINT, 3 DEPTH, 4 PRICE, 5 1 if FAST, otherwise 0, 6 SLOW, 7 of how many BATHS in VATS and "
        + "TUBS it is the DYE now")
    private static void promise13OfDye() {
        Vatcompiler x = empty();
        x.dye(987, 6, 54, true, 3);
        x.dye(1, 2, 3, false, 0);
        Checks.same("of 0", numbers(8, what -> x.ofDye(0, what)), "9 8 7 6 54 1 3 0");
        Checks.same("of 1", numbers(8, what -> x.ofDye(1, what)), "0 0 1 2 3 0 0 0");
        for (int k = 0; k < 3; k++) {
            x.vat();
        }
        x.fill(2, 0);
        Checks.same("1", x.ofDye(0, 7), 1);
        x.spill(2, 1);
        Checks.same("1 in a tub", x.ofDye(0, 7), 1);
        x.fill(2, 0);
        x.spill(2, 0);
        for (int k = 0; k < 3; k++) {
            x.fill(k, 0);
            Checks.same("in tubs and vats", x.ofDye(0, 7), 3 + k);
        }
        x.fill(1, 1);
        Checks.same("one is let out", x.ofDye(0, 7), 4);
        Checks.same("of the other", x.ofDye(1, 7), 1);
        for (int k = 0; k < 5; k++) {
            x.pass(24);
        }
        Checks.same("also of no strength", x.ofDye(0, 7), 4);
    }

    @Sentence("0 LINES, 1 STEPS, 2 DIPS, 3 HANKS that have it, 4 to 6 the numbers of its AIM, 7 how many HANKS of it are GOOD")
    private static void promise14OfRecipe() {
        Vatcompiler x = withDyes(100);
        Recipes.tell(x, 5, 9, 8, "0 a1 again2*1");
        Recipes.tell(x, 5, 0, 0, "0");
        for (int recipe : new int[] {1, 0, 1, 1, 0}) {
            x.hank(recipe);
        }
        x.rules(4, 0);
        x.dip(5, 0);
        Checks.same("two lines of 4 steps, none good", numbers(8, what -> x.ofRecipe(0, what)), "3 4 2 2 5 9 8 0");
        Checks.same("two of three are good", numbers(8, what -> x.ofRecipe(1, what)), "1 1 1 3 5 0 0 2");
        x.rules(4, 99);
        Checks.same("one that is not done is not", x.ofRecipe(1, 7), 2);
    }

    @Sentence("for each DIP the number of the DYE, \"r\" for RINSE, \"a\" for AIR (one sign for each AIR, however many HOURS); \"-\" "
        + "without LINES.")
    private static void promise15Steps() {
        Vatcompiler x = withDyes(0, 0, 0, 0, 0, 0);
        x.recipe(0, 0, 0);
        Checks.same("without lines", x.steps(0), "-");
        Recipes.add(x, 0, "r");
        Checks.same("one line", x.steps(0), "r");
        Recipes.tell(x, "5*2 r a4 0 again3*1 a1");
        Checks.same("all kinds", x.steps(1), "55ra0ra0a");
        Recipes.tell(x, "a4 a4");
        Checks.same("one for each air", x.steps(2), "aa");
    }

    @Sentence("0 its DYE (NONE, if it is empty), 1 STRENGTH (0 likewise), 2 FOUL (0 likewise)")
    private static void promise16Bath() {
        Vatcompiler x = empty();
        x.dye(100, 9, 1, false, 0);
        x.dye(10, 9, 1, true, 0);
        Recipes.hank(x, "0 1");
        x.vat();
        x.vat();
        Checks.same("empty", numbers(3, what -> x.bath(false, 1, what)), "-1 0 0");
        x.fill(0, 0);
        x.fill(1, 1);
        x.dip(1, 0);
        x.dip(1, 1);
        Checks.same("full", numbers(3, what -> x.bath(false, 1, what)), "1 29 1");
        x.spill(1, 1);
        Checks.same("empty again", numbers(3, what -> x.bath(false, 1, what)), "-1 0 0");
        Checks.same("full tub", numbers(3, what -> x.bath(true, 1, what)), "1 29 1");
        Checks.same("empty tub", numbers(3, what -> x.bath(true, 0, what)), "-1 0 0");
    }

    @Sentence("0 its RECIPE, 1 to 3 the numbers of its SHADE, 4 how many STEPS are done, 5 1 if DONE, otherwise 0, 6 LOOSE DYES,")
    private static void promise17OfHank() {
        Vatcompiler x = empty();
        x.dye(123, 1, 1, false, 2);
        x.dye(10, 1, 1, true, 0);
        Recipes.tell(x, "1");
        x.hank(Recipes.tell(x, 7, 17, 26, "0*2 a3 1"));
        x.hank(0);
        x.vat();
        x.fill(0, 0);
        x.dip(1, 0);
        x.dip(1, 0);
        x.pass(1);
        Checks.same("in the air", numbers(12, what -> x.ofHank(0, what)), "1 10 20 30 2 0 1 2 1 0 10 10");
        x.pass(1);
        Checks.same("in the air", numbers(12, what -> x.ofHank(0, what)), "1 14 30 44 2 0 1 0 2 0 38 38");
        x.pass(1);
        x.fill(0, 1);
        x.dip(1, 0);
        Checks.same("done", numbers(12, what -> x.ofHank(0, what)), "1 14 35 44 4 1 1 0 0 3 43 43");
    }

    @Sentence("7 of how many DIPS of SLOW DYES something is still to come (also of 0, 0, 0),")
    private static void promise17ToCome() {
        Vatcompiler x = empty();
        x.dye(0, 1, 1, true, 3);
        x.dye(100, 1, 1, true, 0);
        Recipes.hank(x, "0*4 0*4 0*2");
        Recipes.hank(x, "1");
        x.vat();
        x.vat();
        x.fill(0, 0);
        x.fill(1, 1);
        x.dip(2, 1);
        Checks.same("not slow", x.ofHank(1, 7), 0);
        for (int k = 1; k <= 10; k++) {
            x.dip(1, 0);
            Checks.same("of 0, 0, 0", x.ofHank(0, 7), k);
        }
        x.pass(2);
        Checks.same("all ten", x.ofHank(0, 7), 10);
        x.pass(1);
        Checks.same("none", x.ofHank(0, 7), 0);
    }

    @Sentence("8 HOURS that it aired of an AIR that is not over,")
    private static void promise17Aired() {
        Vatcompiler x = empty();
        Recipes.hank(x, "a4 a1 r");
        for (int hours = 0; hours < 4; hours++) {
            Checks.same("aired", x.ofHank(0, 8), hours);
            x.pass(1);
        }
        Checks.same("over", x.ofHank(0, 8), 0);
        x.pass(1);
        Checks.same("the next is over", x.ofHank(0, 8), 0);
        x.pass(1);
        Checks.same("a rinse is next", x.ofHank(0, 8), 0);
    }

    @Sentence("9 0 not DONE, 1 GOOD, 2 a PAIR, 3 a SECOND, 10 FAR from its AIM by the LIGHT 0, 11 by the LIGHT 1")
    private static void promise17Standing() {
        Vatcompiler x = withDyes(111);
        x.hank(Recipes.tell(x, 4, 4, 3, "0"));
        Checks.same("not done", numbers(3, what -> x.ofHank(0, 9 + what)), "0 11 10");
        x.dip(1, 0);
        Checks.same("good", numbers(3, what -> x.ofHank(0, 9 + what)), "1 4 5");
        x.rules(4, 4);
        Checks.same("a pair", x.ofHank(0, 9), 2);
        x.rules(4, 3);
        Checks.same("a second", x.ofHank(0, 9), 3);
        x.rules(4, 5);
        Checks.same("good again", x.ofHank(0, 9), 1);
    }

    @Sentence("Returns what is next for it: \"dip 2\" (the DYE), \"rinse\", \"air 3\" (HOURS that are left), or \"done\".")
    private static void promise18Next() {
        Vatcompiler x = withDyes(0, 0, 0, 0, 0, 0);
        Recipes.hank(x, "a4 r 0*2 r");
        Recipes.hank(x, "5");
        Checks.same("the last dye", x.next(1), "dip 5");
        for (int left = 4; left >= 1; left--) {
            Checks.same("left", x.next(0), "air " + left);
            x.pass(1);
        }
        Checks.same("behind the air", x.next(0), "rinse");
        x.rinse(0);
        Checks.same("the first of two", x.next(0), "dip 0");
        x.dip(1, 0);
        Checks.same("the second of two", x.next(0), "dip 0");
        x.dip(1, 0);
        Checks.same("the last step", x.next(0), "rinse");
        x.rinse(0);
        Checks.same("behind it", x.next(0), "done");
    }

    @Sentence("Returns FAR of their SHADES.")
    private static void promise19Far() {
        Vatcompiler x = withDyes(999, 19);
        Recipes.hank(x, "0*3");
        Recipes.hank(x, "1");
        Recipes.hank(x, "r");
        for (int k = 0; k < 3; k++) {
            x.dip(1, 0);
        }
        x.dip(2, 1);
        Checks.same("99 99 99 and 0 0 0", x.far(0, 2, 0), 297);
        Checks.same("by the light 1", x.far(2, 0, 1), 297);
        Checks.same("0 5 45 and 0 0 0", x.far(1, 2, 0), 50);
        Checks.same("1 15 33 and 0 0 0", x.far(1, 2, 1), 49);
        Checks.same("99 99 99 and 0 5 45", x.far(0, 1, 0), 247);
        Checks.same("99 99 99 and 1 15 33", x.far(1, 0, 1), 248);
        Checks.same("like ones", x.far(2, 2, 0), 0);
    }

    @Sentence("0 HOUR, 1 DYES, 2 RECIPES, 3 VATS, 4 HANKS, 5 DONE ones, 6 GOOD, 7 PAIRS, 8 SECONDS, 9 what was paid ever, 10 measures "
        + "of water let out ever, 11 in this HOUR, 12 LIMIT, 13 BAND, 14 DIPS ever (of each HANK)")
    private static void promise20Street() {
        Vatcompiler x = empty();
        x.dye(111, 1, 17, true, 0);
        x.dye(0, 1, 1, true, 0);
        x.rules(8, 4);
        x.hank(Recipes.tell(x, 5, 5, 5, "0"));
        x.hank(Recipes.tell(x, 4, 4, 3, "0"));
        x.hank(Recipes.tell(x, 99, 0, 0, "0"));
        for (int k = 0; k < 2; k++) {
            x.hank(1);
            x.hank(2);
            x.hank(2);
        }
        x.vat();
        Checks.same("ahead", numbers(15, x::street), "0 2 3 1 9 0 0 0 0 0 0 0 8 4 0");
        x.fill(0, 0);
        x.dip(63, 0);
        x.fill(0, 1);
        x.pass(3);
        x.fill(0, 0);
        x.rinse(8);
        Checks.same("behind", numbers(15, x::street), "3 2 3 1 9 6 1 2 3 35 5 3 8 4 6");
    }

    @Sentence("Returns whether they could be DIPPED there together now.")
    private static void promise21Can() {
        Vatcompiler x = withDyes(100, 10);
        Recipes.tell(x, "0");
        Recipes.tell(x, "1");
        Recipes.tell(x, "r 0");
        for (int recipe : new int[] {0, 0, 1, 2}) {
            x.hank(recipe);
        }
        boolean[] inFirst = {true, true, true, false, false, false, false, false};
        for (int set = 1; set <= 8; set++) {
            Checks.same("set " + set + " in vat 0", x.can(set, 0), inFirst[set - 1]);
            Checks.same("set " + set + " in vat 1", x.can(set, 1), set == 4);
        }
        x.rinse(3);
        Checks.same("behind its rinse", x.can(8 + 3, 0), true);
        x.dip(1, 0);
        Checks.same("a done one", x.can(8 + 3, 0), false);
        Checks.same("without it", x.can(8 + 2, 0), true);
        x.spill(0, 0);
        Checks.same("an empty vat", x.can(8 + 2, 0), false);
        x.spill(1, 0);
        Checks.same("in the other vat", x.can(8 + 2, 1), true);
    }

    @Sentence("what would be (nothing is changed)")
    private static void promise21NothingIsChanged() {
        unchanged("can", x -> {
            x.can(1, 0);
            x.can(2, 1);
        });
        unchanged("plan and fills", x -> {
            x.plan(0);
            x.plan(4);
            x.fills();
        });
        unchanged("match", x -> {
            x.match(50, 60, 70, true);
            x.match(0, 0, 0, false);
        });
        unchanged("rescue", x -> {
            x.rescue(0);
            x.rescue(3);
        });
        unchanged("wouldBe", x -> {
            x.wouldBe(0, 0);
            x.wouldBe(2, 3);
        });
        unchanged("isSound and digest", x -> {
            x.isSound();
            x.digest();
        });
        Vatcompiler y = middle();
        Checks.same("asked twice", Answers.all(y), Answers.all(y));
    }

    /** The same when the plan was asked ahead, when there were three hanks and nothing was in the vat. */
    @Sentence("what would be (nothing is changed)")
    private static void promise21PlanAskedAhead() {
        for (boolean isAsked : new boolean[] {false, true}) {
            Vatcompiler x = empty();
            for (int price : new int[] {10, 20, 40, 80}) {
                x.dye(0, 1, price, true, 0);
            }
            x.vat();
            Recipes.tell(x, "3");
            Recipes.hank(x, "0");
            Recipes.hank(x, "1 2");
            x.hank(0);
            if (isAsked) {
                Checks.same("three", numbers(5, x::plan), "150 4 150 3 4");
                Checks.same("three", x.fills(), "0:0 0:1 0:2 0:3");
            }
            x.fill(0, 1);
            x.dip(2, 0);
            x.fill(0, 3);
            x.dip(4, 0);
            Checks.same("two are left", numbers(5, x::plan), "50 2 50 2 2");
            Checks.same("two are left", x.fills(), "0:0 0:2");
        }
    }

    /** The same when the plan was asked ahead, with the last dye in both vats, which are empty since. */
    @Sentence("what would be (nothing is changed)")
    private static void promise21PlanAskedOfOtherBaths() {
        for (boolean isAsked : new boolean[] {false, true}) {
            Vatcompiler x = withDyes(0, 0, 0, 0, 0, 0);
            Recipes.tell(x, "0");
            x.hank(0);
            x.hank(0);
            Recipes.hank(x, "2 1");
            x.fill(0, 5);
            x.fill(1, 5);
            if (isAsked) {
                Checks.same("5 in both", numbers(5, x::plan), "3 3 4 3 4");
            }
            x.spill(0, 0);
            x.spill(1, 1);
            x.dip(4, 2);
            Checks.same("none in both", numbers(5, x::plan), "2 2 3 3 3");
        }
    }

    /** Some way on: foul, loose and slow ones, an air, water let out. */
    private static Vatcompiler middle() {
        Vatcompiler x = empty();
        x.dye(800, 4, 10, true, 0);
        x.dye(70, 5, 20, false, 0);
        x.dye(6, 3, 30, false, 0);
        x.dye(333, 2, 40, true, 2);
        Recipes.tell(x, 40, 12, 7, "1 2 3 a3 r 0");
        Recipes.tell(x, 1, 2, 3, "0*2 r");
        Recipes.tell(x, 90, 2, 3, "3");
        x.vat();
        x.vat();
        for (int recipe : new int[] {0, 0, 2, 2}) {
            x.hank(recipe);
        }
        x.rules(6, 9);
        x.fill(0, 1);
        x.fill(1, 2);
        x.dip(3, 0);
        x.dip(3, 1);
        x.pass(3);
        x.fill(0, 3);
        x.dip(8 + 1, 0);
        x.rinse(1);
        x.pass(1);
        x.fill(1, 0);
        return x;
    }

    private static void unchanged(String asked, Consumer<Vatcompiler> ask) {
        Vatcompiler x = middle();
        ask.accept(x);
        Checks.same(asked + ": answers as ahead", Answers.all(x), Answers.all(middle()));
        Vatcompiler y = middle();
        ask.accept(y);
        Checks.same(asked + ": goes on as ahead", Further.calls(y), Further.calls(middle()));
    }

    @Sentence({"0 COST of the BEST PLAN, 1 its FILLS, 2 PLAIN COST, 3 for how many HANKS it is, 4 how long the NEEDS of these are, "
        + "together", "Returns that (NONE for 0 and 1 without a PLAN)."})
    private static void promise22Plan() {
        Vatcompiler x = empty();
        x.dye(0, 1, 7, true, 0);
        x.dye(0, 1, 50, true, 0);
        Checks.same("no hanks", numbers(5, x::plan), "0 0 0 0 0");
        Recipes.tell(x, "0 1 0");
        x.hank(0);
        Checks.same("without a plan", numbers(5, x::plan), "-1 -1 64 1 3");
        x.hank(0);
        Checks.same("without a plan", numbers(5, x::plan), "-1 -1 128 2 6");
        x.vat();
        Checks.same("one vat", numbers(5, x::plan), "64 3 128 2 6");
        x.vat();
        Checks.same("two vats", numbers(5, x::plan), "57 2 128 2 6");
        x.hank(0);
        x.hank(0);
        Checks.same("three of four hanks", numbers(5, x::plan), "57 2 192 3 9");
        x.fill(0, 0);
        x.fill(1, 1);
        Checks.same("nothing is to fill", numbers(5, x::plan), "0 0 192 3 9");
    }

    @Sentence("Returns the BEST PLAN: its FILLS, each as VAT and DYE (\"0:2\"), with \" \" between; \"-\", if it is empty; \"none\" "
        + "without one.")
    private static void promise23Fills() {
        Vatcompiler x = empty();
        x.dye(0, 1, 1, true, 0);
        x.dye(0, 1, 1, true, 0);
        x.dye(0, 1, 1, true, 0);
        Checks.same("empty", x.fills(), "-");
        Recipes.hank(x, "2");
        Checks.same("without one", x.fills(), "none");
        x.vat();
        Checks.same("one", x.fills(), "0:2");
        Recipes.hank(x, "1 2");
        Checks.same("two", x.fills(), "0:1 0:2");
        x.vat();
        x.fill(0, 2);
        Checks.same("the second vat", x.fills(), "1:1");
        x.fill(1, 1);
        Checks.same("empty", x.fills(), "-");
    }

    @Sentence("whether FAR of the BEST MATCH by both LIGHTS together, otherwise its amounts, one behind the other as digits")
    private static void promise24Match() {
        Vatcompiler x = empty();
        x.dye(100, 1, 1, true, 0);
        Checks.same("one digit", x.match(3, 0, 0, false), 3);
        Checks.same("none", x.match(0, 0, 0, false), 0);
        Checks.same("94 by 0, 71 and 23 by 1", x.match(99, 0, 0, true), 94 + 71 + 23);
        x.dye(10, 1, 1, true, 0);
        Checks.same("two digits", x.match(3, 2, 0, false), 32);
        Checks.same("a leading 0", x.match(0, 2, 0, false), 2);
        x.dye(1, 1, 1, true, 0);
        Checks.same("three digits", x.match(3, 2, 1, false), 321);
        Checks.same("leading 0s", x.match(0, 0, 1, false), 1);
        Checks.same("no farther", x.match(5, 5, 5, true), 0);
        Checks.same("as far as can be", x.match(99, 99, 99, true), 2 * 3 * 94);
    }

    @Sentence("Returns its RESCUE (what that DYE brings later counts, too; what is still to come from DIPS ahead does not); NONE, if it "
        + "is no SECOND, or there is none.")
    private static void promise25Rescue() {
        Vatcompiler x = empty();
        x.dye(100, 1, 1, true, 3);
        x.dye(101, 1, 1, true, 0);
        x.dye(101, 1, 1, true, 3);
        x.rules(4, 0);
        x.hank(Recipes.tell(x, 12, 0, 7, "0"));
        x.hank(Recipes.tell(x, 10, 0, 5, "0"));
        x.hank(Recipes.tell(x, 5, 0, 0, "0"));
        x.hank(Recipes.tell(x, 1, 0, 0, "0"));
        x.vat();
        x.fill(0, 0);
        x.dip(15, 0);
        Checks.same("5 0 0, and 7 0 7 by what comes later", x.rescue(0), 2);
        Checks.same("5 0 0, and 5 0 5 at once", x.rescue(1), 1);
        Checks.same("no second", x.rescue(2), -1);
        Checks.same("there is none", x.rescue(3), -1);
        x.pass(3);
        Checks.same("7 0 0 now, a second", x.rescue(2), -1);
        Checks.same("12 0 5 or 14 0 7 for 12 0 7", x.rescue(0), 2);
    }

    @Sentence("what is still to come from DIPS ahead does not);")
    private static void promise25WhatIsToCome() {
        Vatcompiler x = empty();
        x.dye(200, 1, 1, true, 2);
        x.dye(100, 1, 1, true, 0);
        x.dye(0, 1, 1, true, 0);
        x.rules(4, 0);
        x.hank(Recipes.tell(x, 15, 0, 0, "0"));
        x.vat();
        x.fill(0, 0);
        x.dip(1, 0);
        Checks.same("10 and 5, though 5 are to come", x.rescue(0), 1);
        x.pass(1);
        Checks.same("still to come", x.rescue(0), 1);
        x.pass(1);
        Checks.same("they came: no second", x.rescue(0), -1);
    }

    private static void wouldBe(Vatcompiler x, String lines, String due) {
        int recipe = Recipes.tell(x, lines);
        Checks.same("\"" + lines + "\"", numbers(4, what -> x.wouldBe(recipe, what)), due);
    }

    @Sentence("0 to 2 the numbers of the SHADE that a HANK of it would have behind all its STEPS and all that SLOW DYES bring, if each "
        + "DIP had a GAIN of 5 and no FOUL, and no HOURS went by but those of its AIRS (and, behind all, as many as are needed);")
    private static void promise26Shade() {
        Vatcompiler x = empty();
        x.dye(12, 9, 10, false, 0);
        x.dye(100, 1, 20, false, 0);
        wouldBe(x, "", "0 0 0 0");
        wouldBe(x, "r a4", "0 0 0 0");
        wouldBe(x, "0", "0 5 10 10");
        wouldBe(x, "0*4 0*4 0", "0 45 90 10");
        wouldBe(x, "0*4 0*4 0*2", "0 50 99 10");
        wouldBe(x, "0 1 0 1*4 1*2", "35 10 20 30");
    }

    @Sentence("and all that SLOW DYES bring,")
    private static void promise26Slow() {
        for (int slow = 1; slow <= 3; slow++) {
            for (int hours = 1; hours <= 4; hours++) {
                Vatcompiler x = empty();
                x.dye(135, 1, 1, true, slow);
                boolean comes = hours >= slow;
                wouldBe(x, "0 a" + hours + " r", comes ? "7 22 37 1" : "5 15 25 1");
                wouldBe(x, "0 a" + hours, "7 22 37 1");
                wouldBe(x, "0 a" + hours + " 0 r", comes ? "12 37 62 1" : "10 30 50 1");
            }
        }
    }

    @Sentence("(and, behind all, as many as are needed);")
    private static void promise26HoursBehindAll() {
        Vatcompiler x = empty();
        x.dye(135, 1, 1, true, 3);
        x.dye(100, 1, 2, true, 1);
        wouldBe(x, "0", "7 22 37 1");
        wouldBe(x, "0 a1 a1 r", "5 15 25 1");
        wouldBe(x, "0 a1 a1 a1 r", "7 22 37 1");
        wouldBe(x, "0 r 1", "12 15 25 3");
        wouldBe(x, "0*4 0*4 0*2", "70 99 99 1");
        wouldBe(x, "1 0 r", "10 15 25 3");
    }

    @Sentence("3 what its DYES would cost, each FILLED once")
    private static void promise26Cost() {
        Vatcompiler x = empty();
        for (int k = 0; k < 6; k++) {
            x.dye(0, 1, 1 << k, true, 0);
        }
        wouldBe(x, "5 r 5 a1 5*4", "0 0 0 32");
        wouldBe(x, "0 1 2 3 4 5", "0 0 0 63");
        wouldBe(x, "4 0 again2*3", "0 0 0 17");
    }

    @Sentence("SHADES are 0 to 99; no STEP is done that is not there; STRENGTHS are 0 to 30; GOOD ones, PAIRS and SECONDS are DONE ones; "
        + "water of this HOUR is 9 at most; COST of the BEST PLAN, if there is one, is no more than PLAIN COST.")
    private static void promise27Sound() {
        Checks.same("a new one", empty().isSound(), true);
        Vatcompiler x = withDyes(999);
        x.hank(Recipes.tell(x, "0*3 r"));
        x.hank(0);
        x.dip(1, 0);
        x.dip(1, 0);
        x.dip(1, 0);
        Checks.same("a shade of 99", x.isSound(), true);
        x.rules(9, 0);
        for (int k = 0; k < 9; k++) {
            x.rinse(0);
        }
        Checks.same("9 measures", x.isSound(), true);
        x.rules(1, 99);
        Checks.same("9 measures of 1", x.isSound(), true);
        for (int k = 0; k < 20; k++) {
            x.pass(24);
        }
        Checks.same("no strength", x.isSound(), true);
        Vatcompiler y = empty();
        y.dye(0, 1, 1, true, 0);
        Recipes.hank(y, "0");
        Checks.same("without a plan", y.isSound(), true);
        y.vat();
        Checks.same("as dear as the plain cost", y.isSound(), true);
    }

    @Sentence({"A number d starts with 7109; for each of the following numbers v, d becomes d * 31 + v, which wraps around as a 64-bit "
        + "integer:", "Returns d."})
    private static void promise28Wraps() {
        Vatcompiler x = empty();
        BigInteger whole = summed(BigInteger.valueOf(7109), "0 0 0 0 0 0 0 0 0 0 0 0 4 10 0 -1 0 0 -1 0 0 0 0 0 0 0 1");
        Checks.same("it is more than 64 bits", whole.bitLength() > 64, true);
        Checks.same("a new one", x.digest(), whole.longValue());
        Checks.same("again", x.digest(), whole.longValue());
    }

    private static BigInteger summed(BigInteger start, String numbers) {
        BigInteger d = start;
        for (String number : numbers.split(" ")) {
            d = d.multiply(BigInteger.valueOf(31)).add(new BigInteger(number));
        }
        return d;
    }

    @Sentence("street() of 0 to 14; DYE by DYE ofDye() of 7; RECIPE by RECIPE ofRecipe() of 0 to 7, wouldBe() of 0 to 3; VAT by VAT and "
        + "TUB by TUB bath() of 0 to 2; HANK by HANK ofHank() of 0 to 11, rescue(); plan() of 0 to 4; 1 if isSound(), otherwise 0.")
    private static void promise28Order() {
        Vatcompiler x = empty();
        x.dye(100, 1, 10, false, 0);
        x.dye(20, 1, 20, true, 1);
        Recipes.tell(x, 9, 8, 7, "0 r");
        Recipes.tell(x, 20, 0, 0, "1 0");
        x.vat();
        x.vat();
        x.hank(1);
        x.hank(0);
        x.fill(0, 1);
        x.fill(1, 0);
        x.dip(1, 0);
        x.dip(1, 1);
        x.rules(5, 6);
        x.spill(1, 1);
        String street = "0 2 2 2 2 1 0 0 1 30 0 0 5 6 2 ";
        String dyes = "1 1 ";
        String recipes = "2 2 1 1 9 8 7 0 5 0 0 10 2 2 2 1 20 0 0 0 5 15 0 30 ";
        String baths = "1 29 0 -1 0 0 -1 0 0 0 29 0 ";
        String hanks = "1 5 10 0 2 1 1 1 0 3 25 20 0 0 0 0 0 0 0 0 0 0 0 24 22 -1 ";
        String plan = "10 1 10 1 1 ";
        BigInteger whole = summed(BigInteger.valueOf(7109), street + dyes + recipes + baths + hanks + plan + "1");
        Checks.same("all numbers by hand", x.digest(), whole.longValue());
    }
}
