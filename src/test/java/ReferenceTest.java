import java.util.Random;

/** Random runs of calls on the class and on the plain model, which must answer and throw alike. */
public final class ReferenceTest {
    private interface Call {
        Object run();
    }

    private static final int RUNS = 500;
    private static final int CALLS = 300;
    /** The document promises nothing behind the 512th call; a turn of a run makes six at most. */
    private static final int MOST_CALLS = 500;

    private final Random random;
    private final Vatcompiler own = new Vatcompiler();
    private final Reference due = new Reference();
    private final int run;
    private final boolean looksOften;
    private String told = "";
    private int calls = 0;

    private ReferenceTest(int run) {
        this.run = run;
        this.looksOften = run % 2 == 0;
        this.random = new Random(run);
    }

    public static void main(String[] args) {
        for (int run = 0; run < RUNS; run++) {
            new ReferenceTest(run).goThrough();
        }
        Checks.end("ReferenceTest");
    }

    private void goThrough() {
        setUp();
        for (int k = 0; k < CALLS && calls < MOST_CALLS; k++) {
            one();
            if (k % (looksOften ? 10 : 60) == 0) {
                compare("digest()", own::digest, due::digest);
            }
        }
        Checks.same("run " + run + ": isSound()", own.isSound(), true);
    }

    /** Most runs start from a rich street, so that they get far; every fourth one from any, poor or empty. */
    private void setUp() {
        boolean isRich = run % 4 != 0;
        int dyes = isRich ? 3 + random.nextInt(4) : random.nextInt(7);
        for (int k = 0; k < dyes; k++) {
            dye();
        }
        int recipes = isRich ? 3 + random.nextInt(4) : random.nextInt(5);
        for (int k = 0; k < recipes; k++) {
            recipe();
            int lines = isRich ? 3 + random.nextInt(8) : random.nextInt(8);
            for (int l = 0; l < lines; l++) {
                line(k);
            }
        }
        int vats = isRich ? 1 + random.nextInt(3) : random.nextInt(4);
        for (int k = 0; k < vats; k++) {
            compare("vat()", own::vat, due::vat);
        }
        int hanks = isRich ? 3 + random.nextInt(6) : random.nextInt(7);
        for (int k = 0; k < hanks; k++) {
            hank(known(2));
        }
    }

    /** Mostly a number of one that is there: a dye (1), recipe (2), vat (3) or hank (4). */
    private int known(int what) {
        return any(Math.max(1, due.street(what)));
    }

    private void one() {
        switch (random.nextInt(24)) {
            case 0 -> setUpMore();
            case 1, 2, 3 -> fill();
            case 4 -> spill();
            case 5, 6, 7, 8, 9, 10 -> dip();
            case 11, 12 -> rinse();
            case 13, 14 -> pass();
            case 15 -> rules();
            case 16, 17 -> askNumbers();
            case 18, 19 -> askTexts();
            case 20 -> match();
            case 21 -> can();
            case 22 -> plan();
            default -> askHanks();
        }
    }

    private void setUpMore() {
        switch (random.nextInt(6)) {
            case 0 -> dye();
            case 1 -> recipe();
            case 2, 3 -> line(known(2));
            case 4 -> compare("vat()", own::vat, due::vat);
            default -> hank(known(2));
        }
    }

    /** Mostly a number below bound, now and then one beside. */
    private int any(int bound) {
        int kind = random.nextInt(100);
        if (kind == 0) {
            return -1 - random.nextInt(3);
        }
        if (kind == 1) {
            return bound + random.nextInt(3);
        }
        if (kind == 2 && random.nextInt(4) == 0) {
            return random.nextBoolean() ? Integer.MAX_VALUE : Integer.MIN_VALUE;
        }
        return random.nextInt(bound);
    }

    private void dye() {
        int tint = random.nextInt(3) == 0 ? any(1000) : 100 * random.nextInt(4) + 10 * random.nextInt(4) + random.nextInt(4);
        int depth = 1 + any(9);
        int price = random.nextBoolean() ? 1 + any(99) : 1 + any(3);
        boolean isFast = random.nextBoolean();
        int slow = any(4);
        compare("dye(" + tint + ", " + depth + ", " + price + ", " + isFast + ", " + slow + ")",
            () -> own.dye(tint, depth, price, isFast, slow), () -> due.dye(tint, depth, price, isFast, slow));
    }

    private void recipe() {
        int one = any(100);
        int two = any(100);
        int three = any(100);
        compare("recipe(" + one + ", " + two + ", " + three + ")",
            () -> own.recipe(one, two, three), () -> due.recipe(one, two, three));
    }

    private void line(int recipe) {
        int kind = random.nextInt(3) < 2 ? 0 : any(4);
        int what = kind == 0 ? known(1) : kind == 3 ? 1 + any(3) : any(40) < 38 ? 0 : 1;
        int times = kind == 1 ? (any(40) < 38 ? 0 : 1) : kind == 0 && random.nextBoolean() ? 1 : 1 + any(4);
        compare("line(" + recipe + ", " + kind + ", " + what + ", " + times + ")",
            () -> own.line(recipe, kind, what, times), () -> due.line(recipe, kind, what, times));
    }

    private void hank(int recipe) {
        compare("hank(" + recipe + ")", () -> own.hank(recipe), () -> due.hank(recipe));
    }

    private void fill() {
        int vat = known(3);
        int dye = random.nextBoolean() ? wanted() : known(1);
        compare("fill(" + vat + ", " + dye + ")", () -> own.fill(vat, dye), () -> due.fill(vat, dye));
    }

    /** A dye that some hank needs next, so that runs get on. */
    private int wanted() {
        int hanks = due.street(4);
        for (int k = 0; k < hanks; k++) {
            String next = due.next(k);
            if (next.startsWith("dip ") && random.nextBoolean()) {
                return Integer.parseInt(next.substring(4));
            }
        }
        return known(1);
    }

    private void spill() {
        int vat = known(3);
        int tub = any(2);
        compare("spill(" + vat + ", " + tub + ")", () -> own.spill(vat, tub), () -> due.spill(vat, tub));
    }

    private int setFor(int vat) {
        int hanks = due.street(4);
        int set = 0;
        if (vat >= 0 && vat < due.street(3)) {
            for (int k = 0; k < hanks; k++) {
                if (due.can(1 << k, vat) && random.nextInt(3) > 0) {
                    set |= 1 << k;
                }
            }
        }
        return set == 0 && random.nextInt(3) == 0 || random.nextInt(20) == 0 ? any(1 << hanks) : set;
    }

    private void dip() {
        int vat = known(3);
        int set = setFor(vat);
        compare("dip(" + set + ", " + vat + ")", () -> own.dip(set, vat), () -> due.dip(set, vat));
    }

    private void can() {
        int vat = known(3);
        int set = setFor(vat);
        compare("can(" + set + ", " + vat + ")", () -> own.can(set, vat), () -> due.can(set, vat));
    }

    private void rinse() {
        int hank = known(4);
        compare("rinse(" + hank + ")", () -> own.rinse(hank), () -> due.rinse(hank));
    }

    private void pass() {
        int hours = random.nextInt(10) == 0 ? 1 + any(24) : 1 + random.nextInt(3);
        compare("pass(" + hours + ")", () -> own.pass(hours), () -> due.pass(hours));
    }

    private void rules() {
        int limit = 1 + any(9);
        int band = random.nextBoolean() ? any(100) : edgeBand();
        compare("rules(" + limit + ", " + band + ")", () -> own.rules(limit, band), () -> due.rules(limit, band));
    }

    /** As far as some hank is from its aim, or one less: there it changes how the hank stands. */
    private int edgeBand() {
        int hanks = due.street(4);
        if (hanks == 0) {
            return any(30);
        }
        int far = due.ofHank(random.nextInt(hanks), 10 + random.nextInt(2));
        return Math.min(99, Math.max(0, far - random.nextInt(2)));
    }

    private void askNumbers() {
        int kind = random.nextInt(5);
        int number = kind == 0 ? known(1) : kind == 2 ? any(6) : known(2);
        int what = any(8);
        boolean isTub = random.nextBoolean();
        switch (kind) {
            case 0 -> compare("ofDye(" + number + ", " + what + ")",
                () -> own.ofDye(number, what), () -> due.ofDye(number, what));
            case 1 -> compare("ofRecipe(" + number + ", " + what + ")",
                () -> own.ofRecipe(number, what), () -> due.ofRecipe(number, what));
            case 2 -> compare("bath(" + isTub + ", " + number / 2 + ", " + what / 2 + ")",
                () -> own.bath(isTub, number / 2, what / 2), () -> due.bath(isTub, number / 2, what / 2));
            case 3 -> compare("street(" + 2 * what + ")", () -> own.street(2 * what), () -> due.street(2 * what));
            default -> compare("wouldBe(" + number + ", " + what / 2 + ")",
                () -> own.wouldBe(number, what / 2), () -> due.wouldBe(number, what / 2));
        }
    }

    private void askTexts() {
        int recipe = known(2);
        int hank = known(4);
        switch (random.nextInt(3)) {
            case 0 -> compare("steps(" + recipe + ")", () -> own.steps(recipe), () -> due.steps(recipe));
            case 1 -> compare("next(" + hank + ")", () -> own.next(hank), () -> due.next(hank));
            default -> compare("fills()", own::fills, due::fills);
        }
    }

    private void match() {
        int one = any(100);
        int two = any(100);
        int three = any(100);
        boolean isFar = random.nextBoolean();
        compare("match(" + one + ", " + two + ", " + three + ", " + isFar + ")",
            () -> own.match(one, two, three, isFar), () -> due.match(one, two, three, isFar));
    }

    private void plan() {
        int what = any(5);
        compare("plan(" + what + ")", () -> own.plan(what), () -> due.plan(what));
    }

    private void askHanks() {
        int hank = known(4);
        int other = known(4);
        int what = any(12);
        switch (random.nextInt(3)) {
            case 0 -> compare("ofHank(" + hank + ", " + what + ")",
                () -> own.ofHank(hank, what), () -> due.ofHank(hank, what));
            case 1 -> compare("far(" + hank + ", " + other + ", " + what / 6 + ")",
                () -> own.far(hank, other, what / 6), () -> due.far(hank, other, what / 6));
            default -> compare("rescue(" + hank + ")", () -> own.rescue(hank), () -> due.rescue(hank));
        }
    }

    private void compare(String call, Call ours, Call theirs) {
        calls += looksOften ? 3 : 1;
        long before = looksOften ? own.digest() : 0;
        Object got = answer(call, ours, true);
        Object wanted = answer(call, theirs, false);
        told = told + " " + call;
        if (!got.equals(wanted)) {
            Checks.fault("run " + run + ":" + (told.length() > 3000 ? " .." : told) + " answered " + got + ", due is " + wanted);
        }
        if (looksOften && got instanceof Class && own.digest() != before) {
            Checks.fault("run " + run + ": " + call + " throws, and changes something");
        }
    }

    private static Object answer(String told, Call call, boolean isOwn) {
        try {
            Object answer = call.run();
            return answer instanceof Integer number ? Long.valueOf(number) : answer;
        } catch (RuntimeException thrown) {
            if (isOwn) {
                Checks.ownThrow(told, thrown);
            }
            return thrown.getClass();
        }
    }
}
