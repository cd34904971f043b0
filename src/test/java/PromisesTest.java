/** Each promise of the document by hand: ordinary calls, the edges that it names, and wrong calls. */
public final class PromisesTest {
    public static void main(String[] args) {
        promise01New();
        promise02Dye();
        promise03Recipe();
        promise04Line();
        promise04LineRefused();
        promise05Vat();
        promise06Fill();
        promise07Spill();
        promise08Hank();
        promise09Dip();
        promise09DipFoul();
        promise09DipSlow();
        promise10Rinse();
        promise11Pass();
        promise11PassAir();
        promise12Rules();
        promise13OfDye();
        promise14OfRecipe();
        promise15Steps();
        promise16Bath();
        promise17OfHank();
        promise18Next();
        promise19Far();
        promise20Street();
        promise21Can();
        promise22Plan();
        promise23Fills();
        promise24Match();
        promise25Rescue();
        promise26WouldBe();
        promise27IsSound();
        promise28Digest();
        Checks.end("PromisesTest");
    }

    /** Dyes 0: red, fast; 1: green, bleeds, depth 5; 2: blue, bleeds, depth 3; 3: grey, fast, slow by 2. */
    private static Vatcompiler street() {
        Vatcompiler x = new Vatcompiler();
        x.dye(800, 4, 10, true, 0);
        x.dye(70, 5, 20, false, 0);
        x.dye(6, 3, 30, false, 0);
        x.dye(333, 2, 40, true, 2);
        return x;
    }

    private static Vatcompiler empty() {
        return new Vatcompiler();
    }

    private static void promise01New() {
        Vatcompiler x = new Vatcompiler();
        int[] due = {0, 0, 0, 0, 0, 0, 0, 0, 0, 0, 0, 0, 4, 10, 0};
        for (int what = 0; what < due.length; what++) {
            Checks.same("new: street(" + what + ")", x.street(what), due[what]);
        }
        for (int tub = 0; tub < 2; tub++) {
            Checks.same("new: tub's dye", x.bath(true, tub, 0), -1);
            Checks.same("new: tub's strength", x.bath(true, tub, 1), 0);
            Checks.same("new: tub's foul", x.bath(true, tub, 2), 0);
        }
        Checks.same("new: isSound()", x.isSound(), true);
        Checks.same("new: fills()", x.fills(), "-");
    }

    private static void promise02Dye() {
        Vatcompiler x = empty();
        Checks.throwsArgument("dye(tint -1)", () -> x.dye(-1, 1, 1, true, 0));
        Checks.throwsArgument("dye(tint 1000)", () -> x.dye(1000, 1, 1, true, 0));
        Checks.throwsArgument("dye(depth 0)", () -> x.dye(0, 0, 1, true, 0));
        Checks.throwsArgument("dye(depth 10)", () -> x.dye(0, 10, 1, true, 0));
        Checks.throwsArgument("dye(price 0)", () -> x.dye(0, 1, 0, true, 0));
        Checks.throwsArgument("dye(price 100)", () -> x.dye(0, 1, 100, true, 0));
        Checks.throwsArgument("dye(slow -1)", () -> x.dye(0, 1, 1, true, -1));
        Checks.throwsArgument("dye(slow 4)", () -> x.dye(0, 1, 1, true, 4));
        Checks.throwsArgument("dye(least int)", () -> x.dye(Integer.MIN_VALUE, 1, 1, true, 0));
        Checks.same("dye(0 1 1)", x.dye(0, 1, 1, true, 0), 0);
        Checks.same("dye(999 9 99 3)", x.dye(999, 9, 99, false, 3), 1);
        Checks.same("street(1)", x.street(1), 2);
        for (int k = 2; k < 6; k++) {
            Checks.same("dye", x.dye(100 * k, 1, 1, true, 0), k);
        }
        Checks.throwsState("a seventh dye", () -> x.dye(0, 1, 1, true, 0));
        Checks.throwsArgument("a seventh dye, wrong", () -> x.dye(0, 1, 1, true, 4));
        Checks.same("street(1)", x.street(1), 6);
    }

    private static void promise03Recipe() {
        Vatcompiler x = empty();
        Checks.throwsArgument("recipe(-1)", () -> x.recipe(-1, 0, 0));
        Checks.throwsArgument("recipe(two 100)", () -> x.recipe(0, 100, 0));
        Checks.throwsArgument("recipe(three -1)", () -> x.recipe(0, 0, -1));
        Checks.same("recipe(0 50 99)", x.recipe(0, 50, 99), 0);
        Checks.same("aim 0", x.ofRecipe(0, 4), 0);
        Checks.same("aim 1", x.ofRecipe(0, 5), 50);
        Checks.same("aim 2", x.ofRecipe(0, 6), 99);
        for (int k = 1; k < 6; k++) {
            Checks.same("recipe", x.recipe(99, 0, 0), k);
        }
        Checks.throwsState("a seventh recipe", () -> x.recipe(0, 0, 0));
        Checks.throwsArgument("a seventh recipe, wrong", () -> x.recipe(0, 0, 100));
    }

    private static void promise04Line() {
        Vatcompiler x = street();
        x.recipe(0, 0, 0);
        Checks.same("dip 1 x 2", x.line(0, 0, 1, 2), 2);
        Checks.same("rinse", x.line(0, 1, 0, 0), 3);
        Checks.same("air of 4 hours", x.line(0, 2, 0, 4), 4);
        Checks.same("again the last 2, 1 time", x.line(0, 3, 2, 1), 6);
        Checks.same("steps", x.steps(0), "11rara");
        Checks.same("dip 3", x.line(0, 0, 3, 4), 10);
        Checks.same("steps", x.steps(0), "11rara3333");
        x.recipe(0, 0, 0);
        x.line(1, 0, 0, 1);
        x.line(1, 0, 1, 2);
        Checks.same("again 2 lines of 3 steps, 2 times", x.line(1, 3, 2, 2), 9);
        Checks.same("steps", x.steps(1), "011011011");
        Checks.same("lines", x.ofRecipe(1, 0), 3);
        x.recipe(0, 0, 0);
        x.line(2, 2, 0, 3);
        x.line(2, 3, 1, 3);
        Checks.same("again of an air", x.steps(2), "aaaa");
        Checks.same("a dip behind an again", x.line(2, 0, 2, 1), 5);
        Checks.same("again of what is behind an again", x.line(2, 3, 1, 3), 8);
        Checks.same("steps", x.steps(2), "aaaa2222");
    }

    private static void promise04LineRefused() {
        Vatcompiler x = street();
        Checks.throwsIndex("no recipe", () -> x.line(0, 9, 0, 0));
        x.recipe(0, 0, 0);
        Checks.throwsIndex("recipe -1", () -> x.line(-1, 0, 0, 1));
        Checks.throwsIndex("dip of no dye, 9 times", () -> x.line(0, 0, 4, 9));
        Checks.throwsIndex("dip of dye -1", () -> x.line(0, 0, -1, 1));
        Checks.throwsArgument("kind -1", () -> x.line(0, -1, 0, 1));
        Checks.throwsArgument("kind 4", () -> x.line(0, 4, 9, 1));
        Checks.throwsArgument("dip 0 times", () -> x.line(0, 0, 0, 0));
        Checks.throwsArgument("dip 5 times", () -> x.line(0, 0, 0, 5));
        Checks.throwsArgument("rinse what 1", () -> x.line(0, 1, 1, 0));
        Checks.throwsArgument("rinse times 1", () -> x.line(0, 1, 0, 1));
        Checks.throwsArgument("air what 1", () -> x.line(0, 2, 1, 1));
        Checks.throwsArgument("air 0", () -> x.line(0, 2, 0, 0));
        Checks.throwsArgument("air 5", () -> x.line(0, 2, 0, 5));
        Checks.throwsArgument("again 0 lines", () -> x.line(0, 3, 0, 1));
        Checks.throwsArgument("again 4 lines", () -> x.line(0, 3, 4, 1));
        Checks.throwsArgument("again 0 times", () -> x.line(0, 3, 1, 0));
        Checks.throwsArgument("again 4 times", () -> x.line(0, 3, 1, 4));
        Checks.throwsState("again of a line that is not there", () -> x.line(0, 3, 1, 1));
        x.line(0, 0, 0, 2);
        Checks.throwsState("again of 2 lines of 1", () -> x.line(0, 3, 2, 1));
        x.line(0, 3, 1, 1);
        Checks.throwsState("again of an again", () -> x.line(0, 3, 1, 1));
        Checks.throwsState("again of a line and an again", () -> x.line(0, 3, 2, 1));
        x.line(0, 0, 1, 4);
        Checks.throwsState("11 steps by a dip", () -> x.line(0, 0, 1, 3));
        Checks.throwsState("12 steps by an again", () -> x.line(0, 3, 1, 1));
        Checks.same("nothing was changed", x.steps(0), "00001111");
        Checks.same("10 steps", x.line(0, 0, 2, 2), 10);
        Checks.throwsState("11 steps by a rinse", () -> x.line(0, 1, 0, 0));
        x.recipe(0, 0, 0);
        for (int k = 1; k <= 8; k++) {
            Checks.same("line " + k, x.line(1, 1, 0, 0), k);
        }
        Checks.throwsState("a ninth line", () -> x.line(1, 1, 0, 0));
        Checks.throwsArgument("a ninth line, wrong", () -> x.line(1, 1, 0, 1));
        x.recipe(0, 0, 0);
        x.line(2, 0, 0, 1);
        x.hank(2);
        Checks.throwsState("a line of a recipe that a hank has", () -> x.line(2, 0, 0, 1));
        Checks.throwsIndex("the same, with no such dye", () -> x.line(2, 0, 4, 1));
    }

    private static void promise05Vat() {
        Vatcompiler x = empty();
        for (int k = 0; k < 3; k++) {
            Checks.same("vat()", x.vat(), k);
            Checks.same("empty", x.bath(false, k, 0), -1);
        }
        Checks.throwsState("a fourth vat", x::vat);
        Checks.same("street(3)", x.street(3), 3);
    }

    private static void promise06Fill() {
        Vatcompiler x = street();
        Checks.throwsIndex("no vat", () -> x.fill(0, 0));
        x.vat();
        x.vat();
        Checks.throwsIndex("no dye", () -> x.fill(0, 4));
        Checks.throwsIndex("dye -1", () -> x.fill(0, -1));
        Checks.throwsIndex("vat -1", () -> x.fill(-1, 0));
        Checks.same("fill an empty one", x.fill(0, 1), 20);
        Checks.same("no water", x.street(11), 0);
        Checks.same("strength", x.bath(false, 0, 1), 30);
        Checks.same("fill a full one", x.fill(0, 0), 30);
        Checks.same("water", x.street(11), 2);
        Checks.same("fill a full one with its own dye", x.fill(0, 0), 40);
        Checks.same("water", x.street(11), 4);
        Checks.throwsState("too much water", () -> x.fill(0, 0));
        Checks.throwsIndex("too much water, and no dye", () -> x.fill(0, 4));
        Checks.same("paid", x.street(9), 40);
        Checks.same("an empty one is never refused", x.fill(1, 2), 70);
        x.rules(1, 10);
        x.pass(1);
        Checks.throwsState("2 of a limit of 1", () -> x.fill(1, 2));
        x.rules(2, 10);
        Checks.same("2 of a limit of 2", x.fill(1, 3), 110);
        Checks.same("the new bath", x.bath(false, 1, 0), 3);
    }

    private static void promise07Spill() {
        Vatcompiler x = street();
        Checks.throwsIndex("no vat", () -> x.spill(0, 0));
        x.vat();
        Checks.throwsIndex("tub 2", () -> x.spill(0, 2));
        Checks.throwsIndex("tub -1", () -> x.spill(0, -1));
        Checks.same("both empty", x.spill(0, 0), -1);
        x.fill(0, 2);
        Checks.same("into the tub", x.spill(0, 1), -1);
        Checks.same("the tub's dye", x.bath(true, 1, 0), 2);
        Checks.same("the vat is empty", x.bath(false, 0, 0), -1);
        Checks.same("the vat's strength", x.bath(false, 0, 1), 0);
        x.fill(0, 1);
        Checks.same("no water by filling what was spilled", x.street(10), 0);
        Checks.same("changed", x.spill(0, 1), 2);
        Checks.same("the tub's dye", x.bath(true, 1, 0), 1);
        Checks.same("the other tub", x.bath(true, 0, 0), -1);
        Checks.same("its strength", x.bath(true, 1, 1), 30);
    }

    private static void promise08Hank() {
        Vatcompiler x = street();
        Checks.throwsIndex("no recipe", () -> x.hank(0));
        x.recipe(1, 2, 3);
        Checks.throwsIndex("recipe -1", () -> x.hank(-1));
        Checks.throwsState("no lines", () -> x.hank(0));
        x.line(0, 1, 0, 0);
        for (int k = 0; k < 10; k++) {
            Checks.same("hank", x.hank(0), k);
        }
        Checks.throwsState("an eleventh", () -> x.hank(0));
        Checks.throwsIndex("an eleventh of no recipe", () -> x.hank(1));
        Checks.same("hanks", x.street(4), 10);
        for (int what = 1; what <= 8; what++) {
            Checks.same("ofHank(9, " + what + ")", x.ofHank(9, what), 0);
        }
    }

    private static void promise09Dip() {
        Vatcompiler x = street();
        Checks.throwsIndex("no vat, no hanks", () -> x.dip(0, 0));
        x.vat();
        Checks.throwsArgument("no hanks", () -> x.dip(1, 0));
        x.recipe(0, 0, 0);
        x.line(0, 0, 0, 4);
        x.line(0, 3, 1, 1);
        for (int k = 0; k < 5; k++) {
            x.hank(0);
        }
        Checks.throwsArgument("the empty set", () -> x.dip(0, 0));
        Checks.throwsArgument("a negative set", () -> x.dip(-1, 0));
        Checks.throwsArgument("a set with hank 5", () -> x.dip(33, 0));
        Checks.throwsIndex("vat 1", () -> x.dip(0, 1));
        Checks.throwsState("an empty vat", () -> x.dip(1, 0));
        x.fill(0, 1);
        Checks.throwsState("another dye", () -> x.dip(1, 0));
        x.fill(0, 0);
        Checks.same("one alone", x.dip(1, 0), 5);
        Checks.same("strength behind one", x.bath(false, 0, 1), 29);
        Checks.same("gain", x.ofHank(0, 1), 40);
        Checks.same("two", x.dip(3, 0), 5);
        Checks.same("strength behind two", x.bath(false, 0, 1), 28);
        Checks.same("five", x.dip(31, 0), 5);
        Checks.same("strength behind five", x.bath(false, 0, 1), 25);
        Checks.same("above 99", x.ofHank(0, 1), 99);
        Checks.same("steps done", x.ofHank(0, 4), 3);
        Checks.same("a fast one is not loose", x.ofHank(0, 6), 0);
        Checks.same("dips ever", x.street(14), 8);
        x.dip(2, 0);
        Checks.same("gain by strength 24", x.dip(4, 0), 4);
        Checks.same("shade", x.ofHank(2, 1), 72);
        Checks.throwsState("one of them can not", () -> {
            for (int k = 0; k < 9; k++) {
                x.dip(1, 0);
            }
        });
        Checks.same("done", x.ofHank(0, 5), 1);
        Checks.throwsState("a done one with another", () -> x.dip(3, 0));
        Checks.same("nothing was changed", x.ofHank(1, 4), 3);
        x.pass(24);
        x.pass(24);
        Checks.same("strength", x.bath(false, 0, 1), 6);
        Checks.same("gain of 6", x.dip(2, 0), 1);
        x.pass(24);
        Checks.same("no strength", x.bath(false, 0, 1), 0);
        Checks.same("the bath is still there", x.bath(false, 0, 0), 0);
        Checks.throwsState("no strength", () -> x.dip(2, 0));
    }

    private static void promise09DipFoul() {
        Vatcompiler x = street();
        x.recipe(0, 0, 0);
        x.line(0, 0, 1, 1);
        x.line(0, 0, 2, 2);
        x.line(0, 0, 1, 2);
        x.vat();
        x.vat();
        x.fill(0, 1);
        x.fill(1, 2);
        x.hank(0);
        x.hank(0);
        x.dip(3, 0);
        Checks.same("loose", x.ofHank(0, 6), 2);
        Checks.same("own dye does not foul", x.bath(false, 0, 2), 0);
        x.dip(1, 1);
        Checks.same("bled, as it is deeper", x.bath(false, 1, 2), 2);
        Checks.same("by that dip it does not count", x.ofHank(0, 2), 35);
        Checks.same("both are loose", x.ofHank(0, 6), 6);
        x.dip(1, 1);
        Checks.same("by the next dip it does", x.ofHank(0, 2), 36);
        Checks.same("only where its tint is above 0", x.ofHank(0, 1), 0);
        Checks.same("third number", x.ofHank(0, 3), 60);
        x.dip(1, 0);
        Checks.same("the less deep one does not bleed", x.bath(false, 0, 2), 0);
        x.rinse(1);
        Checks.same("rinsed", x.ofHank(1, 6), 0);
        x.dip(2, 1);
        Checks.same("foul also for one that was rinsed", x.ofHank(1, 2), 36);
        x.fill(1, 2);
        Checks.same("a new bath has no foul", x.bath(false, 1, 2), 0);
        x.dip(2, 1);
        Checks.same("a rinsed one does not bleed", x.bath(false, 1, 2), 0);
        Checks.same("of the like depth it bleeds", equalDepthFoul(), 1);
    }

    private static int equalDepthFoul() {
        Vatcompiler x = empty();
        x.dye(100, 4, 1, false, 0);
        x.dye(100, 4, 1, false, 0);
        x.recipe(0, 0, 0);
        x.line(0, 0, 0, 1);
        x.line(0, 0, 1, 1);
        x.hank(0);
        x.vat();
        x.vat();
        x.fill(0, 0);
        x.fill(1, 1);
        x.dip(1, 0);
        x.dip(1, 1);
        return x.bath(false, 1, 2);
    }

    private static void promise09DipSlow() {
        Vatcompiler x = street();
        x.recipe(0, 0, 0);
        x.line(0, 0, 3, 3);
        x.line(0, 1, 0, 0);
        x.vat();
        x.fill(0, 3);
        x.hank(0);
        x.dip(1, 0);
        Checks.same("at once", x.ofHank(0, 1), 15);
        Checks.same("still to come", x.ofHank(0, 7), 1);
        x.pass(1);
        x.dip(1, 0);
        Checks.same("not yet", x.ofHank(0, 1), 30);
        Checks.same("two to come", x.ofHank(0, 7), 2);
        x.pass(1);
        Checks.same("as the second hour begins: 15 / 2", x.ofHank(0, 1), 37);
        Checks.same("one to come", x.ofHank(0, 7), 1);
        x.pass(1);
        Checks.same("the other one", x.ofHank(0, 2), 44);
        x.dip(1, 0);
        x.rinse(0);
        Checks.same("rinsed ahead", x.ofHank(0, 7), 0);
        x.pass(4);
        Checks.same("nothing comes", x.ofHank(0, 3), 59);
        Vatcompiler y = empty();
        y.dye(0, 1, 1, false, 1);
        y.recipe(0, 0, 0);
        y.line(0, 0, 0, 1);
        y.hank(0);
        y.vat();
        y.fill(0, 0);
        y.dip(1, 0);
        Checks.same("also of 0, 0, 0", y.ofHank(0, 7), 1);
        y.pass(1);
        Checks.same("come", y.ofHank(0, 7), 0);
    }

    private static void promise10Rinse() {
        Vatcompiler x = street();
        Checks.throwsIndex("no hank", () -> x.rinse(0));
        x.recipe(0, 0, 0);
        x.line(0, 1, 0, 0);
        x.line(0, 0, 1, 1);
        x.line(0, 0, 2, 1);
        x.line(0, 2, 0, 2);
        x.line(0, 1, 0, 0);
        x.hank(0);
        Checks.throwsIndex("hank -1", () -> x.rinse(-1));
        Checks.same("as its next step", x.rinse(0), 0);
        Checks.same("done by that", x.ofHank(0, 4), 1);
        Checks.same("besides", x.rinse(0), 0);
        Checks.same("no step", x.ofHank(0, 4), 1);
        x.vat();
        x.vat();
        x.fill(0, 1);
        x.fill(1, 2);
        x.dip(1, 0);
        x.dip(1, 1);
        Checks.same("loose ones", x.ofHank(0, 6), 6);
        Checks.same("how many", x.rinse(0), 2);
        Checks.same("gone", x.ofHank(0, 6), 0);
        x.pass(1);
        Checks.same("aired", x.ofHank(0, 8), 1);
        x.rinse(0);
        Checks.same("a rinse besides leaves the air", x.ofHank(0, 8), 1);
        x.pass(1);
        Checks.same("not done", x.ofHank(0, 5), 0);
        x.rinse(0);
        Checks.same("done", x.ofHank(0, 5), 1);
        x.rinse(0);
        x.rinse(0);
        x.rinse(0);
        Checks.same("water", x.street(11), 4);
        Checks.throwsState("too much water", () -> x.rinse(0));
        Checks.throwsIndex("too much, and no hank", () -> x.rinse(1));
        x.rules(5, 10);
        x.rinse(0);
        Checks.same("water in the hour", x.street(11), 5);
        Checks.same("water ever", x.street(10), 9);
    }

    private static void promise11Pass() {
        Vatcompiler x = street();
        Checks.throwsArgument("pass(0)", () -> x.pass(0));
        Checks.throwsArgument("pass(25)", () -> x.pass(25));
        Checks.throwsArgument("pass(-1)", () -> x.pass(-1));
        x.vat();
        x.fill(0, 0);
        x.spill(0, 0);
        x.fill(0, 1);
        x.fill(0, 1);
        Checks.same("pass(3)", x.pass(3), 3);
        Checks.same("no weaker yet", x.bath(false, 0, 1), 30);
        Checks.same("no water in the new hour", x.street(11), 0);
        Checks.same("water ever", x.street(10), 2);
        Checks.same("pass(1)", x.pass(1), 4);
        Checks.same("weaker", x.bath(false, 0, 1), 29);
        Checks.same("in the tub too", x.bath(true, 0, 1), 29);
        Checks.same("an empty one is empty", x.bath(true, 1, 1), 0);
        Checks.same("pass(24)", x.pass(24), 28);
        Checks.same("6 fourth hours", x.bath(false, 0, 1), 23);
        for (int k = 0; k < 19; k++) {
            x.pass(24);
        }
        Checks.same("hour", x.street(0), 484);
        Checks.same("0 at least", x.bath(true, 0, 1), 0);
        Checks.throwsState("above 500", () -> x.pass(17));
        Checks.throwsArgument("above 500, and wrong", () -> x.pass(25));
        Checks.same("500", x.pass(16), 500);
        Checks.throwsState("501", () -> x.pass(1));
    }

    private static void promise11PassAir() {
        Vatcompiler x = street();
        x.recipe(0, 0, 0);
        x.line(0, 2, 0, 2);
        x.line(0, 2, 0, 3);
        x.line(0, 0, 0, 1);
        x.hank(0);
        x.pass(1);
        Checks.same("aired", x.ofHank(0, 8), 1);
        Checks.same("not over", x.ofHank(0, 4), 0);
        x.pass(1);
        Checks.same("over", x.ofHank(0, 4), 1);
        Checks.same("of the next one none", x.ofHank(0, 8), 0);
        x.pass(2);
        Checks.same("two of three", x.ofHank(0, 8), 2);
        x.pass(20);
        Checks.same("the dip waits", x.ofHank(0, 4), 2);
        Checks.same("no air", x.ofHank(0, 8), 0);
        x.hank(0);
        x.pass(5);
        Checks.same("both at one pass", x.ofHank(1, 4), 2);
    }

    private static void promise12Rules() {
        Vatcompiler x = empty();
        Checks.throwsArgument("limit 0", () -> x.rules(0, 10));
        Checks.throwsArgument("limit 10", () -> x.rules(10, 10));
        Checks.throwsArgument("band -1", () -> x.rules(4, -1));
        Checks.throwsArgument("band 100", () -> x.rules(4, 100));
        Checks.same("rules(1, 0)", x.rules(1, 0), 4);
        Checks.same("rules(9, 99)", x.rules(9, 99), 1);
        Checks.same("limit", x.street(12), 9);
        Checks.same("band", x.street(13), 99);
    }

    private static void promise13OfDye() {
        Vatcompiler x = empty();
        Checks.throwsIndex("no dye, no what", () -> x.ofDye(0, 8));
        x.dye(123, 4, 56, true, 2);
        x.dye(7, 8, 90, false, 0);
        int[] due = {1, 2, 3, 4, 56, 1, 2, 0};
        int[] other = {0, 0, 7, 8, 90, 0, 0, 0};
        for (int what = 0; what <= 7; what++) {
            Checks.same("ofDye(0, " + what + ")", x.ofDye(0, what), due[what]);
            Checks.same("ofDye(1, " + what + ")", x.ofDye(1, what), other[what]);
        }
        Checks.throwsArgument("what 8", () -> x.ofDye(0, 8));
        Checks.throwsArgument("what -1", () -> x.ofDye(0, -1));
        Checks.throwsIndex("dye 2", () -> x.ofDye(2, 0));
        x.vat();
        x.vat();
        x.fill(0, 1);
        x.spill(0, 0);
        x.fill(0, 1);
        x.fill(1, 0);
        Checks.same("baths of 1", x.ofDye(1, 7), 2);
        Checks.same("baths of 0", x.ofDye(0, 7), 1);
        x.fill(0, 0);
        Checks.same("baths of 1", x.ofDye(1, 7), 1);
    }

    private static void promise14OfRecipe() {
        Vatcompiler x = street();
        Checks.throwsIndex("no recipe", () -> x.ofRecipe(0, 9));
        x.recipe(40, 2, 3);
        x.line(0, 0, 0, 1);
        x.line(0, 2, 0, 3);
        x.line(0, 3, 2, 2);
        int[] due = {3, 6, 3, 0, 40, 2, 3, 0};
        for (int what = 0; what <= 7; what++) {
            Checks.same("ofRecipe(0, " + what + ")", x.ofRecipe(0, what), due[what]);
        }
        Checks.throwsArgument("what 8", () -> x.ofRecipe(0, 8));
        Checks.throwsArgument("what -1", () -> x.ofRecipe(0, -1));
        Checks.throwsIndex("recipe -1", () -> x.ofRecipe(-1, 0));
        x.recipe(40, 0, 0);
        x.line(1, 0, 0, 1);
        x.hank(1);
        x.hank(0);
        x.hank(1);
        Checks.same("hanks", x.ofRecipe(1, 3), 2);
        x.vat();
        x.fill(0, 0);
        x.dip(7, 0);
        Checks.same("good ones", x.ofRecipe(1, 7), 2);
        Checks.same("not done is not good", x.ofRecipe(0, 7), 0);
    }

    private static void promise15Steps() {
        Vatcompiler x = street();
        Checks.throwsIndex("no recipe", () -> x.steps(0));
        x.recipe(0, 0, 0);
        Checks.throwsIndex("recipe 1", () -> x.steps(1));
        Checks.same("no lines", x.steps(0), "-");
        x.line(0, 0, 3, 2);
        x.line(0, 1, 0, 0);
        x.line(0, 2, 0, 4);
        Checks.same("steps", x.steps(0), "33ra");
        x.line(0, 3, 3, 1);
        Checks.same("steps", x.steps(0), "33ra33ra");
    }

    private static void promise16Bath() {
        Vatcompiler x = street();
        Checks.throwsIndex("vat 0", () -> x.bath(false, 0, 3));
        Checks.throwsIndex("tub 2", () -> x.bath(true, 2, 0));
        Checks.throwsIndex("tub -1", () -> x.bath(true, -1, 0));
        Checks.throwsArgument("what 3", () -> x.bath(true, 1, 3));
        Checks.throwsArgument("what -1", () -> x.bath(true, 1, -1));
        x.vat();
        Checks.same("empty", x.bath(false, 0, 0), -1);
        Checks.same("empty", x.bath(false, 0, 1), 0);
        Checks.same("empty", x.bath(false, 0, 2), 0);
        x.fill(0, 2);
        Checks.same("dye", x.bath(false, 0, 0), 2);
        Checks.same("strength", x.bath(false, 0, 1), 30);
        Checks.same("foul", x.bath(false, 0, 2), 0);
        x.recipe(0, 0, 0);
        x.line(0, 0, 1, 1);
        x.line(0, 0, 2, 1);
        x.hank(0);
        x.vat();
        x.fill(1, 1);
        x.dip(1, 1);
        x.dip(1, 0);
        x.spill(0, 1);
        Checks.same("foul goes along", x.bath(true, 1, 2), 2);
        Checks.same("strength goes along", x.bath(true, 1, 1), 29);
    }

    private static void promise17OfHank() {
        Vatcompiler x = street();
        Checks.throwsIndex("no hank", () -> x.ofHank(0, 12));
        x.recipe(0, 0, 0);
        x.line(0, 0, 0, 1);
        x.recipe(30, 2, 5);
        x.line(1, 0, 0, 1);
        x.hank(1);
        x.hank(0);
        Checks.throwsArgument("what 12", () -> x.ofHank(0, 12));
        Checks.throwsArgument("what -1", () -> x.ofHank(0, -1));
        Checks.throwsIndex("hank 2", () -> x.ofHank(2, 0));
        int[] ahead = {1, 0, 0, 0, 0, 0, 0, 0, 0, 0, 37, 36};
        for (int what = 0; what <= 11; what++) {
            Checks.same("ofHank(0, " + what + ")", x.ofHank(0, what), ahead[what]);
        }
        x.vat();
        x.fill(0, 0);
        x.dip(1, 0);
        int[] behind = {1, 40, 0, 0, 1, 1, 0, 0, 0, 3, 17, 10};
        for (int what = 0; what <= 11; what++) {
            Checks.same("ofHank(0, " + what + ")", x.ofHank(0, what), behind[what]);
        }
        x.rules(4, 17);
        Checks.same("good at the band", x.ofHank(0, 9), 1);
        x.rules(4, 16);
        Checks.same("a second by the light 0", x.ofHank(0, 9), 3);
        Vatcompiler y = Streets.dippedOnce(111, 4, 4, 3);
        Checks.same("5 5 5 and 4 4 3 by the light 0", y.ofHank(0, 10), 4);
        Checks.same("5 5 5 and 4 3 3 by the light 1", y.ofHank(0, 11), 5);
        int[] byBand = {3, 3, 3, 3, 2, 1, 1};
        for (int band = 0; band < byBand.length; band++) {
            y.rules(4, band);
            Checks.same("standing by a band of " + band, y.ofHank(0, 9), byBand[band]);
        }
        Vatcompiler z = Streets.dippedOnce(111, 4, 6, 3);
        Checks.same("5 5 5 and 4 6 3 by the light 0", z.ofHank(0, 10), 4);
        Checks.same("5 5 5 and 4 5 3 by the light 1", z.ofHank(0, 11), 3);
        z.rules(4, 3);
        Checks.same("near by the light 1 alone is a second", z.ofHank(0, 9), 3);
    }

    private static void promise18Next() {
        Vatcompiler x = street();
        Checks.throwsIndex("no hank", () -> x.next(0));
        x.recipe(0, 0, 0);
        x.line(0, 1, 0, 0);
        x.line(0, 2, 0, 3);
        x.line(0, 0, 2, 1);
        x.hank(0);
        Checks.throwsIndex("hank -1", () -> x.next(-1));
        Checks.same("next", x.next(0), "rinse");
        x.rinse(0);
        Checks.same("next", x.next(0), "air 3");
        x.pass(2);
        Checks.same("next", x.next(0), "air 1");
        x.pass(1);
        Checks.same("next", x.next(0), "dip 2");
        x.vat();
        x.fill(0, 2);
        x.dip(1, 0);
        Checks.same("next", x.next(0), "done");
    }

    private static void promise19Far() {
        Vatcompiler x = street();
        Checks.throwsIndex("no hanks", () -> x.far(0, 0, 2));
        x.recipe(0, 0, 0);
        x.line(0, 0, 0, 1);
        x.recipe(0, 0, 0);
        x.line(1, 0, 2, 1);
        x.hank(0);
        x.hank(1);
        Checks.throwsIndex("one -1", () -> x.far(-1, 0, 0));
        Checks.throwsIndex("other 2", () -> x.far(0, 2, 0));
        Checks.throwsArgument("light 2", () -> x.far(0, 1, 2));
        Checks.throwsArgument("light -1", () -> x.far(0, 1, -1));
        x.vat();
        x.vat();
        x.fill(0, 0);
        x.fill(1, 2);
        x.dip(1, 0);
        x.dip(2, 1);
        Checks.same("40 0 0 and 0 0 30 by 0", x.far(0, 1, 0), 70);
        Checks.same("30 0 10 and 0 7 22 by 1", x.far(0, 1, 1), 49);
        Checks.same("the other way", x.far(1, 0, 1), 49);
        Checks.same("of one alone", x.far(1, 1, 0), 0);
    }

    private static void promise20Street() {
        Vatcompiler x = street();
        Checks.throwsArgument("what 15", () -> x.street(15));
        Checks.throwsArgument("what -1", () -> x.street(-1));
        x.recipe(40, 0, 0);
        x.line(0, 0, 0, 1);
        x.recipe(38, 0, 0);
        x.line(1, 0, 0, 1);
        x.recipe(0, 0, 0);
        x.line(2, 0, 0, 1);
        x.vat();
        x.hank(0);
        x.hank(1);
        x.hank(2);
        x.hank(2);
        x.rules(7, 2);
        x.fill(0, 0);
        x.dip(7, 0);
        x.fill(0, 1);
        x.rinse(0);
        x.pass(2);
        x.rinse(3);
        int[] due = {2, 4, 3, 1, 4, 3, 1, 1, 1, 30, 4, 1, 7, 2, 3};
        for (int what = 0; what < due.length; what++) {
            Checks.same("street(" + what + ")", x.street(what), due[what]);
        }
        Vatcompiler y = Streets.dippedOnce(111, 4, 4, 3);
        y.rules(4, 4);
        Checks.same("a pair", y.street(7), 1);
        Checks.same("not good", y.street(6), 0);
    }

    private static void promise21Can() {
        Vatcompiler x = street();
        Checks.throwsIndex("no vat", () -> x.can(0, 0));
        x.vat();
        Checks.throwsArgument("no hank", () -> x.can(1, 0));
        x.recipe(0, 0, 0);
        x.line(0, 0, 0, 1);
        x.line(0, 0, 1, 1);
        x.hank(0);
        x.hank(0);
        Checks.throwsArgument("the empty set", () -> x.can(0, 0));
        Checks.throwsArgument("hank 2", () -> x.can(4, 0));
        Checks.throwsArgument("-1", () -> x.can(-1, 0));
        Checks.throwsIndex("vat 1", () -> x.can(4, 1));
        Checks.same("an empty vat", x.can(1, 0), false);
        x.fill(0, 0);
        Checks.same("both", x.can(3, 0), true);
        Checks.same("nothing is changed", x.bath(false, 0, 1), 30);
        x.dip(1, 0);
        Checks.same("one is further on", x.can(3, 0), false);
        Checks.same("the other alone", x.can(2, 0), true);
        for (int k = 0; k < 5; k++) {
            x.pass(24);
        }
        Checks.same("no strength", x.can(2, 0), false);
    }

    private static void promise22Plan() {
        Vatcompiler x = street();
        Checks.throwsArgument("what -1", () -> x.plan(-1));
        Checks.throwsArgument("what 5", () -> x.plan(5));
        same(x, "no hanks, no vats", 0, 0, 0, 0, 0);
        x.recipe(0, 0, 0);
        x.line(0, 1, 0, 0);
        x.hank(0);
        same(x, "a hank without needs, no vats", 0, 0, 0, 1, 0);
        x.recipe(0, 0, 0);
        x.line(1, 0, 0, 2);
        x.line(1, 1, 0, 0);
        x.line(1, 0, 0, 1);
        x.line(1, 0, 1, 1);
        x.line(1, 0, 0, 1);
        x.hank(1);
        same(x, "no vats", -1, -1, 40, 2, 3);
        x.vat();
        same(x, "one vat", 40, 3, 40, 2, 3);
        x.vat();
        same(x, "two vats", 30, 2, 40, 2, 3);
        x.fill(1, 1);
        same(x, "what is there counts", 10, 1, 40, 2, 3);
        x.vat();
        x.fill(2, 0);
        same(x, "a third vat does not count", 10, 1, 40, 2, 3);
        x.fill(0, 0);
        same(x, "all is there", 0, 0, 40, 2, 3);
        x.dip(2, 0);
        same(x, "one dip of two", 0, 0, 40, 2, 3);
        x.dip(2, 0);
        x.rinse(1);
        x.dip(2, 0);
        same(x, "needs from the next step on", 0, 0, 30, 2, 2);
        x.hank(1);
        x.hank(1);
        same(x, "the first three not done", 0, 0, 70, 3, 5);
        x.rinse(0);
        same(x, "one of them is done", 0, 0, 110, 3, 8);
    }

    private static void same(Vatcompiler x, String call, int... due) {
        for (int what = 0; what <= 4; what++) {
            Checks.same(call + ": plan(" + what + ")", x.plan(what), due[what]);
        }
    }

    private static void promise23Fills() {
        Vatcompiler x = street();
        Checks.same("no hanks", x.fills(), "-");
        x.recipe(0, 0, 0);
        x.line(0, 0, 3, 1);
        x.line(0, 0, 2, 1);
        x.line(0, 0, 3, 1);
        x.line(0, 0, 1, 1);
        x.hank(0);
        Checks.same("no vats", x.fills(), "none");
        x.vat();
        Checks.same("one vat", x.fills(), "0:3 0:2 0:3 0:1");
        x.vat();
        Checks.same("two vats", x.fills(), "0:3 1:2 0:1");
        x.fill(0, 2);
        Checks.same("one is there", x.fills(), "1:3 0:1");
        x.fill(1, 3);
        Checks.same("both are there", x.fills(), "0:1");
        x.hank(0);
        x.hank(0);
        Checks.same("three of one recipe", x.fills(), "0:1");
        Vatcompiler y = street();
        for (int k = 0; k < 2; k++) {
            y.recipe(0, 0, 0);
            y.line(k, 0, 1 - k, 1);
            y.hank(k);
        }
        y.vat();
        y.vat();
        Checks.same("of equal ones the smaller vat, then the smaller dye", y.fills(), "0:0 0:1");
    }

    private static void promise24Match() {
        Vatcompiler x = empty();
        Checks.throwsArgument("match(-1)", () -> x.match(-1, 0, 0, true));
        Checks.throwsArgument("match(two 100)", () -> x.match(0, 100, 0, true));
        Checks.throwsArgument("match(three 100)", () -> x.match(0, 0, 100, false));
        Checks.throwsState("no dye", () -> x.match(0, 0, 0, false));
        x.dye(321, 1, 9, true, 0);
        Checks.same("one dye", x.match(9, 6, 3, false), 3);
        Checks.same("far", x.match(9, 6, 3, true), 0);
        Checks.same("5 at most", x.match(99, 99, 99, false), 5);
        Checks.same("15 10 5 and 13 8 7 to 99 99 99", x.match(99, 99, 99, true), 267 + 269);
        x.dye(321, 1, 4, true, 0);
        Checks.same("the lesser price", x.match(9, 6, 3, false), 3);
        x.dye(321, 1, 4, true, 0);
        Checks.same("the smallest number", x.match(9, 6, 3, false), 3);
        Checks.same("two of the cheap ones hold all", x.match(30, 20, 10, false), 55);
        Checks.same("three hold more", x.match(45, 30, 15, false), 555);
        x.dye(999, 1, 1, true, 0);
        Checks.same("the fourth dye does not count", x.match(45, 45, 45, false), 555);
        Vatcompiler y = empty();
        y.dye(900, 1, 1, true, 0);
        y.dye(90, 1, 1, true, 0);
        Checks.same("two dyes, two digits", y.match(18, 27, 0, false), 23);
        Checks.same("none of the first", y.match(0, 27, 0, false), 3);
        y.dye(900, 1, 1, true, 0);
        Checks.same("90 is near enough to 99", y.match(99, 0, 0, false), 505);
        Vatcompiler z = empty();
        z.dye(900, 1, 1, true, 0);
        z.dye(900, 1, 1, true, 0);
        z.dye(900, 1, 1, true, 0);
        Checks.same("99 at most: 11 of them, the least number", z.match(99, 0, 0, false), 155);
        Checks.same("no farther", z.match(99, 0, 0, true), 0);
    }

    private static void promise25Rescue() {
        Vatcompiler x = empty();
        Checks.throwsIndex("no hank", () -> x.rescue(0));
        x.dye(100, 1, 1, true, 0);
        x.dye(101, 1, 1, true, 0);
        x.dye(200, 1, 1, true, 0);
        x.dye(101, 1, 1, true, 3);
        x.recipe(20, 0, 0);
        x.line(0, 0, 0, 1);
        x.recipe(12, 0, 7);
        x.line(1, 0, 0, 1);
        x.recipe(1, 0, 0);
        x.line(2, 0, 0, 1);
        x.recipe(10, 0, 5);
        x.line(3, 0, 0, 1);
        for (int k = 0; k < 4; k++) {
            x.hank(k);
        }
        Checks.throwsIndex("hank 4", () -> x.rescue(4));
        x.vat();
        x.fill(0, 0);
        x.rules(4, 99);
        Checks.same("not done", x.rescue(0), -1);
        x.dip(15, 0);
        Checks.same("good", x.rescue(0), -1);
        x.rules(4, 0);
        Checks.same("15 0 0 is nearest to 20 0 0", x.rescue(0), 2);
        Checks.same("what it brings later counts", x.rescue(1), 3);
        Checks.same("none is nearer", x.rescue(2), -1);
        Checks.same("the one without what comes later", x.rescue(3), 1);
        Vatcompiler y = Streets.dippedOnce(100, 7, 0, 0);
        y.rules(4, 0);
        Checks.same("nearer, not as near: 10 to 7", y.rescue(0), -1);
        y.dye(0, 1, 1, true, 0);
        Checks.same("as near is not nearer", y.rescue(0), -1);
        Vatcompiler z = Streets.dippedOnce(100, 10, 0, 0);
        z.dye(100, 1, 1, true, 0);
        z.rules(4, 0);
        Checks.same("of equal ones the smaller", z.rescue(0), 0);
    }

    private static void promise26WouldBe() {
        Vatcompiler x = street();
        Checks.throwsIndex("no recipe", () -> x.wouldBe(0, 4));
        x.recipe(0, 0, 0);
        Checks.throwsArgument("what 4", () -> x.wouldBe(0, 4));
        Checks.throwsArgument("what -1", () -> x.wouldBe(0, -1));
        wouldBe(x, 0, 0, 0, 0, 0);
        x.line(0, 0, 3, 1);
        wouldBe(x, 0, 22, 22, 22, 40);
        x.line(0, 2, 0, 1);
        x.line(0, 1, 0, 0);
        wouldBe(x, 0, 15, 15, 15, 40);
        x.line(0, 0, 0, 2);
        wouldBe(x, 0, 95, 15, 15, 50);
        x.line(0, 0, 0, 1);
        wouldBe(x, 0, 99, 15, 15, 50);
        x.recipe(0, 0, 0);
        x.line(1, 0, 3, 1);
        x.line(1, 2, 0, 2);
        x.line(1, 1, 0, 0);
        wouldBe(x, 1, 22, 22, 22, 40);
        x.line(1, 3, 3, 2);
        wouldBe(x, 1, 66, 66, 66, 40);
        x.line(1, 0, 2, 1);
        wouldBe(x, 1, 66, 66, 96, 70);
    }

    private static void wouldBe(Vatcompiler x, int recipe, int... due) {
        for (int what = 0; what <= 3; what++) {
            Checks.same(x.steps(recipe) + ": wouldBe(" + recipe + ", " + what + ")", x.wouldBe(recipe, what), due[what]);
        }
    }

    private static void promise27IsSound() {
        Vatcompiler x = street();
        Checks.same("isSound()", x.isSound(), true);
        x.recipe(0, 0, 0);
        x.line(0, 0, 0, 4);
        x.line(0, 0, 3, 4);
        x.hank(0);
        Checks.same("without a plan", x.isSound(), true);
        x.vat();
        x.fill(0, 0);
        x.rules(9, 0);
        for (int k = 0; k < 4; k++) {
            x.dip(1, 0);
            x.rinse(0);
        }
        x.rules(1, 0);
        Checks.same("more water than a new limit", x.isSound(), true);
    }

    private static void promise28Digest() {
        Vatcompiler x = empty();
        Checks.same("a new one", x.digest(), digestOf(x, 0, 0, 0, 0));
        x = street();
        Checks.same("with dyes", x.digest(), digestOf(x, 4, 0, 0, 0));
        x.recipe(1, 2, 3);
        x.recipe(12, 34, 56);
        x.line(1, 0, 3, 2);
        x.line(1, 0, 1, 1);
        x.vat();
        x.vat();
        x.hank(1);
        x.hank(1);
        x.hank(1);
        x.fill(1, 3);
        x.dip(5, 1);
        x.dip(1, 1);
        x.spill(1, 1);
        x.fill(1, 1);
        x.dip(1, 1);
        x.pass(1);
        long once = x.digest();
        Checks.same("with all", once, digestOf(x, 4, 2, 2, 3));
        Checks.same("again", x.digest(), once);
        x.rules(4, 11);
        Checks.same("another band is another digest", x.digest() == once, false);
    }

    private static long digestOf(Vatcompiler x, int dyes, int recipes, int vats, int hanks) {
        long d = 7109;
        for (int what = 0; what <= 14; what++) {
            d = d * 31 + x.street(what);
        }
        for (int k = 0; k < dyes; k++) {
            d = d * 31 + x.ofDye(k, 7);
        }
        for (int k = 0; k < recipes; k++) {
            for (int what = 0; what <= 11; what++) {
                d = d * 31 + (what <= 7 ? x.ofRecipe(k, what) : x.wouldBe(k, what - 8));
            }
        }
        for (int k = 0; k < vats + 2; k++) {
            for (int what = 0; what <= 2; what++) {
                d = d * 31 + x.bath(k >= vats, k >= vats ? k - vats : k, what);
            }
        }
        for (int k = 0; k < hanks; k++) {
            for (int what = 0; what <= 12; what++) {
                d = d * 31 + (what <= 11 ? x.ofHank(k, what) : x.rescue(k));
            }
        }
        for (int what = 0; what <= 4; what++) {
            d = d * 31 + x.plan(what);
        }
        return d * 31 + (x.isSound() ? 1 : 0);
    }
}
