import java.util.ArrayList;
import java.util.Arrays;

/** A street of dyers: recipes, vats and tubs, hanks of cloth, and the plans and matches that are asked of it. */
public final class Vatcompiler {
    private static final int NONE = -1;
    private static final int PLACES = 3;
    private static final int MOST_DYES = 6;
    private static final int MOST_RECIPES = 6;
    private static final int MOST_LINES = 8;
    private static final int MOST_STEPS = 10;
    private static final int MOST_VATS = 3;
    private static final int TUBS = 2;
    private static final int MOST_HANKS = 10;
    private static final int MOST_NUMBER = 99;
    private static final int MOST_STRENGTH = 30;
    private static final int MOST_SLOW = 3;
    private static final int MOST_HOUR = 500;
    private static final int MOST_LIMIT = 9;
    private static final int FRESH_GAIN = 5;
    private static final int FILL_WATER = 2;
    private static final int RINSE_WATER = 1;
    private static final int TOO_MUCH = 1 << 20;

    private static final int DIP = 0;
    private static final int RINSE = 1;
    private static final int AIR = 2;
    private static final int AGAIN = 3;

    private static final int NOT_DONE = 0;
    private static final int GOOD = 1;
    private static final int PAIR = 2;
    private static final int SECOND = 3;

    private static final int PLANNED_HANKS = 3;
    private static final int PLANNED_VATS = 2;

    private final ArrayList<Dye> dyes = new ArrayList<>();
    private final ArrayList<Recipe> recipes = new ArrayList<>();
    private final ArrayList<Bath> vats = new ArrayList<>();
    private final ArrayList<Bath> tubs = new ArrayList<>();
    private final ArrayList<Hank> hanks = new ArrayList<>();
    private final Planner planner = new Planner();
    private final Cloth trial = new Cloth();
    private final Shade asked = new Shade();
    private int hour = 0;
    private int limit = 4;
    private int band = 10;
    private int paid = 0;
    private int waterEver = 0;
    private int waterNow = 0;
    private int dipsEver = 0;

    public Vatcompiler() {
        for (int k = 0; k < TUBS; k++) {
            tubs.add(new Bath());
        }
    }

    // ---- dyes and recipes

    public int dye(int tint, int depth, int price, boolean isFast, int slow)
            throws IllegalArgumentException, IllegalStateException {
        if (tint < 0 || tint > 999 || depth < 1 || depth > 9) {
            throw new IllegalArgumentException("no such tint or depth");
        }
        if (price < 1 || price > 99 || slow < 0 || slow > MOST_SLOW) {
            throw new IllegalArgumentException("no such price or slow");
        }
        if (dyes.size() >= MOST_DYES) {
            throw new IllegalStateException("there are 6 dyes");
        }
        int number = dyes.size();
        Dye told = new Dye(number, depth, price, isFast, slow);
        told.tint.tell(tint / 100, tint / 10 % 10, tint % 10);
        dyes.add(told);
        planner.tellPrice(number, price);
        return number;
    }

    public int recipe(int one, int two, int three) throws IllegalArgumentException, IllegalStateException {
        if (!areNumbers(one, two, three)) {
            throw new IllegalArgumentException("a number is not 0 to 99");
        }
        if (recipes.size() >= MOST_RECIPES) {
            throw new IllegalStateException("there are 6 recipes");
        }
        int number = recipes.size();
        Recipe told = new Recipe(number);
        told.aim.tell(one, two, three);
        recipes.add(told);
        return number;
    }

    public int line(int recipe, int kind, int what, int times)
            throws IndexOutOfBoundsException, IllegalArgumentException, IllegalStateException {
        Recipe told = recipeAt(recipe);
        // Asked for its exception alone, which is due ahead of those below.
        if (kind == DIP) {
            dyeAt(what);
        }
        if (!isLine(kind, what, times)) {
            throw new IllegalArgumentException("no such line");
        }
        int more = told.stepsMore(kind, what, times);
        if (told.hankCount > 0 || told.lineCount >= MOST_LINES) {
            throw new IllegalStateException("the recipe takes no line");
        }
        if (more == NONE || told.stepCount + more > MOST_STEPS) {
            throw new IllegalStateException("the line does not fit");
        }
        told.addLine(kind, what, times);
        return told.stepCount;
    }

    private static boolean isLine(int kind, int what, int times) {
        switch (kind) {
            case DIP:
                return times >= 1 && times <= 4;
            case RINSE:
                return what == 0 && times == 0;
            case AIR:
                return what == 0 && times >= 1 && times <= 4;
            case AGAIN:
                return what >= 1 && what <= 3 && times >= 1 && times <= 3;
            default:
                return false;
        }
    }

    // ---- vats and hanks

    public int vat() throws IllegalStateException {
        if (vats.size() >= MOST_VATS) {
            throw new IllegalStateException("there are 3 vats");
        }
        vats.add(new Bath());
        return vats.size() - 1;
    }

    public int fill(int vat, int dye) throws IndexOutOfBoundsException, IllegalStateException {
        Bath filled = vatAt(vat);
        Dye with = dyeAt(dye);
        if (filled.dye != null) {
            letOut(FILL_WATER);
        }
        filled.freshen(with);
        paid += with.price;
        return paid;
    }

    public int spill(int vat, int tub) throws IndexOutOfBoundsException {
        Bath inVat = vatAt(vat);
        Bath inTub = tubAt(tub);
        vats.set(vat, inTub);
        tubs.set(tub, inVat);
        return inTub.dyeNumber();
    }

    public int hank(int recipe) throws IndexOutOfBoundsException, IllegalStateException {
        Recipe of = recipeAt(recipe);
        if (hanks.size() >= MOST_HANKS || of.lineCount == 0) {
            throw new IllegalStateException("there are 10 hanks, or no lines");
        }
        hanks.add(new Hank(of));
        of.hankCount++;
        return hanks.size() - 1;
    }

    public int dip(int hanks, int vat)
            throws IndexOutOfBoundsException, IllegalArgumentException, IllegalStateException {
        Bath in = vatAt(vat);
        checkHanks(hanks);
        Dye of = in.dye;
        if (of == null || !areDippable(hanks, in)) {
            throw new IllegalStateException("a hank can not be dipped there");
        }
        int gain = in.gain();
        int foulAhead = in.foul;
        int dipped = 0;
        for (int k = 0; k < this.hanks.size(); k++) {
            if ((hanks >> k & 1) == 1) {
                Hank one = this.hanks.get(k);
                in.foul |= bleeding(one, of);
                dipOne(one, of, gain, foulAhead);
                dipped++;
            }
        }
        in.weaken((dipped + 1) / 2);
        dipsEver += dipped;
        return gain;
    }

    private void dipOne(Hank one, Dye of, int gain, int foulAhead) {
        one.cloth.take(of, gain, hour);
        for (int k = 0; k < dyes.size(); k++) {
            if ((foulAhead >> k & 1) == 1) {
                one.cloth.takeFoul(dyes.get(k));
            }
        }
        if (!of.isFast) {
            one.loose |= 1 << of.number;
        }
        one.stepOn();
    }

    private int bleeding(Hank one, Dye into) {
        int bled = 0;
        for (int k = 0; k < dyes.size(); k++) {
            boolean isLoose = (one.loose >> k & 1) == 1;
            if (isLoose && k != into.number && dyes.get(k).depth >= into.depth) {
                bled |= 1 << k;
            }
        }
        return bled;
    }

    public int rinse(int hank) throws IndexOutOfBoundsException, IllegalStateException {
        Hank rinsed = hankAt(hank);
        letOut(RINSE_WATER);
        int loose = Integer.bitCount(rinsed.loose);
        rinsed.loose = 0;
        rinsed.cloth.losePending();
        if (rinsed.nextKind() == RINSE) {
            rinsed.stepOn();
        }
        return loose;
    }

    private void letOut(int measures) {
        if (waterNow + measures > limit) {
            throw new IllegalStateException("too much water would be let out");
        }
        waterNow += measures;
        waterEver += measures;
    }

    public int pass(int hours) throws IllegalArgumentException, IllegalStateException {
        if (hours < 1 || hours > 24) {
            throw new IllegalArgumentException("not 1 to 24 hours");
        }
        if (hour + hours > MOST_HOUR) {
            throw new IllegalStateException("the hour would be above 500");
        }
        for (int k = 0; k < hours; k++) {
            letHourGo();
        }
        return hour;
    }

    private void letHourGo() {
        hour++;
        waterNow = 0;
        for (int k = 0; k < hanks.size(); k++) {
            Hank one = hanks.get(k);
            one.cloth.receive(hour);
            one.air();
        }
        if (hour % 4 == 0) {
            weakenAll(vats);
            weakenAll(tubs);
        }
    }

    private static void weakenAll(ArrayList<Bath> baths) {
        for (int k = 0; k < baths.size(); k++) {
            baths.get(k).weaken(1);
        }
    }

    public int rules(int limit, int band) throws IllegalArgumentException {
        if (limit < 1 || limit > MOST_LIMIT || band < 0 || band > MOST_NUMBER) {
            throw new IllegalArgumentException("no such limit or band");
        }
        int before = this.limit;
        this.limit = limit;
        this.band = band;
        return before;
    }

    // ---- what is asked

    public int ofDye(int dye, int what) throws IndexOutOfBoundsException, IllegalArgumentException {
        Dye of = dyeAt(dye);
        if (what < 0 || what > 7) {
            throw new IllegalArgumentException("what is not 0 to 7");
        }
        switch (what) {
            case 3:
                return of.depth;
            case 4:
                return of.price;
            case 5:
                return of.isFast ? 1 : 0;
            case 6:
                return of.slow;
            case 7:
                return bathsOf(vats, of) + bathsOf(tubs, of);
            default:
                return of.tint.number(what);
        }
    }

    private static int bathsOf(ArrayList<Bath> baths, Dye of) {
        int count = 0;
        for (int k = 0; k < baths.size(); k++) {
            if (baths.get(k).dye == of) {
                count++;
            }
        }
        return count;
    }

    public int ofRecipe(int recipe, int what) throws IndexOutOfBoundsException, IllegalArgumentException {
        Recipe of = recipeAt(recipe);
        if (what < 0 || what > 7) {
            throw new IllegalArgumentException("what is not 0 to 7");
        }
        switch (what) {
            case 0:
                return of.lineCount;
            case 1:
                return of.stepCount;
            case 2:
                return of.dipCount();
            case 3:
                return of.hankCount;
            case 7:
                return goodOnes(of);
            default:
                return of.aim.number(what - 4);
        }
    }

    private int goodOnes(Recipe of) {
        int count = 0;
        for (int k = 0; k < hanks.size(); k++) {
            Hank one = hanks.get(k);
            if (one.recipe == of && one.standing(band) == GOOD) {
                count++;
            }
        }
        return count;
    }

    public String steps(int recipe) throws IndexOutOfBoundsException {
        Recipe of = recipeAt(recipe);
        StringBuilder text = new StringBuilder();
        for (int k = 0; k < of.stepCount; k++) {
            int kind = of.stepKind(k);
            if (kind == DIP) {
                text.append(of.stepWhat(k));
            } else {
                text.append(kind == RINSE ? 'r' : 'a');
            }
        }
        if (text.length() == 0) {
            text.append('-');
        }
        return text.toString();
    }

    public int bath(boolean isTub, int number, int what)
            throws IndexOutOfBoundsException, IllegalArgumentException {
        Bath of = isTub ? tubAt(number) : vatAt(number);
        if (what < 0 || what > 2) {
            throw new IllegalArgumentException("what is not 0 to 2");
        }
        switch (what) {
            case 0:
                return of.dyeNumber();
            case 1:
                return of.strength;
            default:
                return of.foul;
        }
    }

    public int ofHank(int hank, int what) throws IndexOutOfBoundsException, IllegalArgumentException {
        Hank of = hankAt(hank);
        if (what < 0 || what > 11) {
            throw new IllegalArgumentException("what is not 0 to 11");
        }
        switch (what) {
            case 0:
                return of.recipe.number;
            case 4:
                return of.stepsDone;
            case 5:
                return of.isDone() ? 1 : 0;
            case 6:
                return of.loose;
            case 7:
                return of.cloth.pending;
            case 8:
                return of.aired;
            case 9:
                return of.standing(band);
            case 10:
            case 11:
                return of.cloth.shade.distance(of.recipe.aim, what - 10);
            default:
                return of.cloth.shade.number(what - 1);
        }
    }

    public String next(int hank) throws IndexOutOfBoundsException {
        Hank of = hankAt(hank);
        StringBuilder text = new StringBuilder();
        switch (of.nextKind()) {
            case DIP:
                text.append("dip ").append(of.nextWhat());
                break;
            case RINSE:
                text.append("rinse");
                break;
            case AIR:
                text.append("air ").append(of.nextWhat() - of.aired);
                break;
            default:
                text.append("done");
                break;
        }
        return text.toString();
    }

    public int far(int one, int other, int light) throws IndexOutOfBoundsException, IllegalArgumentException {
        Hank first = hankAt(one);
        Hank second = hankAt(other);
        if (light != 0 && light != 1) {
            throw new IllegalArgumentException("light is not 0 or 1");
        }
        return first.cloth.shade.distance(second.cloth.shade, light);
    }

    public int street(int what) throws IllegalArgumentException {
        if (what < 0 || what > 14) {
            throw new IllegalArgumentException("what is not 0 to 14");
        }
        switch (what) {
            case 0:
                return hour;
            case 1:
                return dyes.size();
            case 2:
                return recipes.size();
            case 3:
                return vats.size();
            case 4:
                return hanks.size();
            case 5:
                return hanks.size() - standingSo(NOT_DONE);
            case 6:
                return standingSo(GOOD);
            case 7:
                return standingSo(PAIR);
            case 8:
                return standingSo(SECOND);
            default:
                return tally(what);
        }
    }

    private int standingSo(int standing) {
        int count = 0;
        for (int k = 0; k < hanks.size(); k++) {
            if (hanks.get(k).standing(band) == standing) {
                count++;
            }
        }
        return count;
    }

    private int tally(int what) {
        switch (what) {
            case 9:
                return paid;
            case 10:
                return waterEver;
            case 11:
                return waterNow;
            case 12:
                return limit;
            case 13:
                return band;
            default:
                return dipsEver;
        }
    }

    // ---- what would be

    public boolean can(int hanks, int vat) throws IndexOutOfBoundsException, IllegalArgumentException {
        Bath in = vatAt(vat);
        checkHanks(hanks);
        return areDippable(hanks, in);
    }

    private boolean areDippable(int set, Bath in) {
        for (int k = 0; k < hanks.size(); k++) {
            if ((set >> k & 1) == 1 && !isDippable(hanks.get(k), in)) {
                return false;
            }
        }
        return true;
    }

    private static boolean isDippable(Hank one, Bath in) {
        return in.dye != null && in.strength >= 1 && one.nextKind() == DIP && one.nextWhat() == in.dyeNumber();
    }

    public int plan(int what) throws IllegalArgumentException {
        if (what < 0 || what > 4) {
            throw new IllegalArgumentException("what is not 0 to 4");
        }
        preparePlanner();
        switch (what) {
            case 0:
                return planner.cost();
            case 1:
                return planner.fillCount();
            case 2:
                return planner.plainCost();
            case 3:
                return planner.hankCount;
            default:
                return planner.needCount();
        }
    }

    public String fills() {
        preparePlanner();
        return planner.written();
    }

    private void preparePlanner() {
        planner.begin(Math.min(PLANNED_VATS, vats.size()), dyeInVat(0), dyeInVat(1));
        for (int k = 0; k < hanks.size(); k++) {
            Hank one = hanks.get(k);
            if (!one.isDone()) {
                planner.addHank(one.recipe, one.stepsDone);
            }
        }
        planner.end();
    }

    private int dyeInVat(int vat) {
        return vat >= 0 && vat < vats.size() ? vats.get(vat).dyeNumber() : NONE;
    }

    public int match(int one, int two, int three, boolean isFar)
            throws IllegalArgumentException, IllegalStateException {
        if (!areNumbers(one, two, three)) {
            throw new IllegalArgumentException("a number is not 0 to 99");
        }
        if (dyes.isEmpty()) {
            throw new IllegalStateException("there is no dye");
        }
        asked.tell(one, two, three);
        int best = bestMixture();
        return isFar ? mixtureFar(best) : best;
    }

    /** Rising digits are tried in turn, so that of equal mixtures the smallest number stays. */
    private int bestMixture() {
        int second = dyes.size() > 1 ? 5 : 0;
        int third = dyes.size() > 2 ? 5 : 0;
        int best = 0;
        int leastFar = TOO_MUCH;
        int leastPrice = TOO_MUCH;
        for (int a = 0; a <= 5; a++) {
            for (int b = 0; b <= second; b++) {
                for (int c = 0; c <= third; c++) {
                    int mixture = digits(a, b, c);
                    int far = mixtureFar(mixture);
                    int price = mixturePrice(mixture);
                    if (far < leastFar || far == leastFar && price < leastPrice) {
                        best = mixture;
                        leastFar = far;
                        leastPrice = price;
                    }
                }
            }
        }
        return best;
    }

    private int digits(int a, int b, int c) {
        if (dyes.size() == 1) {
            return a;
        }
        return dyes.size() == 2 ? 10 * a + b : 100 * a + 10 * b + c;
    }

    private int mixtureFar(int mixture) {
        trial.clear();
        int rest = mixture;
        for (int k = Math.min(3, dyes.size()) - 1; k >= 0; k--) {
            trial.shade.growBy(dyes.get(k).tint, rest % 10);
            rest /= 10;
        }
        return trial.shade.distanceByBoth(asked);
    }

    private int mixturePrice(int mixture) {
        int price = 0;
        int rest = mixture;
        for (int k = Math.min(3, dyes.size()) - 1; k >= 0; k--) {
            price += dyes.get(k).price * (rest % 10);
            rest /= 10;
        }
        return price;
    }

    public int rescue(int hank) throws IndexOutOfBoundsException {
        Hank of = hankAt(hank);
        if (of.standing(band) != SECOND) {
            return NONE;
        }
        int best = NONE;
        int nearest = of.cloth.shade.distanceByBoth(of.recipe.aim);
        for (int k = 0; k < dyes.size(); k++) {
            trial.clear();
            trial.shade.become(of.cloth.shade);
            trial.take(dyes.get(k), FRESH_GAIN, 0);
            trial.receive(MOST_SLOW);
            int then = trial.shade.distanceByBoth(of.recipe.aim);
            if (then < nearest) {
                nearest = then;
                best = k;
            }
        }
        return best;
    }

    public int wouldBe(int recipe, int what) throws IndexOutOfBoundsException, IllegalArgumentException {
        Recipe of = recipeAt(recipe);
        if (what < 0 || what > 3) {
            throw new IllegalArgumentException("what is not 0 to 3");
        }
        if (what == 3) {
            return dyesCost(of);
        }
        tryOut(of);
        return trial.shade.number(what);
    }

    private void tryOut(Recipe of) {
        trial.clear();
        int clock = 0;
        for (int k = 0; k < of.stepCount; k++) {
            switch (of.stepKind(k)) {
                case DIP:
                    trial.take(dyeAt(of.stepWhat(k)), FRESH_GAIN, clock);
                    break;
                case RINSE:
                    trial.losePending();
                    break;
                default:
                    clock += of.stepWhat(k);
                    trial.receive(clock);
                    break;
            }
        }
        trial.receive(clock + MOST_SLOW);
    }

    private int dyesCost(Recipe of) {
        int used = of.usedDyes();
        int cost = 0;
        for (int k = 0; k < dyes.size(); k++) {
            if ((used >> k & 1) == 1) {
                cost += dyes.get(k).price;
            }
        }
        return cost;
    }

    public boolean isSound() {
        if (waterNow > MOST_LIMIT || !areBathsSound(vats) || !areBathsSound(tubs)) {
            return false;
        }
        for (int k = 0; k < hanks.size(); k++) {
            if (!hanks.get(k).isInOrder(band)) {
                return false;
            }
        }
        preparePlanner();
        return planner.cost() == NONE || planner.cost() <= planner.plainCost();
    }

    private static boolean areBathsSound(ArrayList<Bath> baths) {
        for (int k = 0; k < baths.size(); k++) {
            int strength = baths.get(k).strength;
            if (strength < 0 || strength > MOST_STRENGTH) {
                return false;
            }
        }
        return true;
    }

    public long digest() {
        long d = 7109;
        for (int what = 0; what <= 14; what++) {
            d = d * 31 + street(what);
        }
        for (int k = 0; k < dyes.size(); k++) {
            d = d * 31 + ofDye(k, 7);
        }
        d = digestRecipes(d);
        d = digestBaths(d, false, vats.size());
        d = digestBaths(d, true, tubs.size());
        d = digestHanks(d);
        for (int what = 0; what <= 4; what++) {
            d = d * 31 + plan(what);
        }
        return d * 31 + (isSound() ? 1 : 0);
    }

    private long digestRecipes(long before) {
        long d = before;
        for (int k = 0; k < recipes.size(); k++) {
            for (int what = 0; what <= 7; what++) {
                d = d * 31 + ofRecipe(k, what);
            }
            for (int what = 0; what <= 3; what++) {
                d = d * 31 + wouldBe(k, what);
            }
        }
        return d;
    }

    private long digestBaths(long before, boolean isTub, int count) {
        long d = before;
        for (int k = 0; k < count; k++) {
            for (int what = 0; what <= 2; what++) {
                d = d * 31 + bath(isTub, k, what);
            }
        }
        return d;
    }

    private long digestHanks(long before) {
        long d = before;
        for (int k = 0; k < hanks.size(); k++) {
            for (int what = 0; what <= 11; what++) {
                d = d * 31 + ofHank(k, what);
            }
            d = d * 31 + rescue(k);
        }
        return d;
    }

    // ---- what a number stands for

    private Dye dyeAt(int number) {
        if (number < 0 || number >= dyes.size()) {
            throw new IndexOutOfBoundsException("no such dye");
        }
        return dyes.get(number);
    }

    private Recipe recipeAt(int number) {
        if (number < 0 || number >= recipes.size()) {
            throw new IndexOutOfBoundsException("no such recipe");
        }
        return recipes.get(number);
    }

    private Bath vatAt(int number) {
        if (number < 0 || number >= vats.size()) {
            throw new IndexOutOfBoundsException("no such vat");
        }
        return vats.get(number);
    }

    private Bath tubAt(int number) {
        if (number < 0 || number >= tubs.size()) {
            throw new IndexOutOfBoundsException("no such tub");
        }
        return tubs.get(number);
    }

    private Hank hankAt(int number) {
        if (number < 0 || number >= hanks.size()) {
            throw new IndexOutOfBoundsException("no such hank");
        }
        return hanks.get(number);
    }

    private void checkHanks(int set) {
        if (set <= 0 || set >= 1 << hanks.size()) {
            throw new IllegalArgumentException("no set of hanks");
        }
    }

    private static boolean areNumbers(int one, int two, int three) {
        return isNumber(one) && isNumber(two) && isNumber(three);
    }

    private static boolean isNumber(int number) {
        return number >= 0 && number <= MOST_NUMBER;
    }

    /** Three numbers, as a shade, an aim or a tint has them. */
    private static final class Shade {
        private final int[] numbers = new int[PLACES];

        private int number(int place) {
            return place >= 0 && place < PLACES ? numbers[place] : 0;
        }

        private void tell(int one, int two, int three) {
            numbers[0] = one;
            numbers[1] = two;
            numbers[2] = three;
        }

        private void become(Shade other) {
            tell(other.numbers[0], other.numbers[1], other.numbers[2]);
        }

        private void grow(int place, int amount) {
            if (place >= 0 && place < PLACES) {
                numbers[place] = Math.min(MOST_NUMBER, numbers[place] + amount);
            }
        }

        private void growBy(Shade tint, int times) {
            for (int k = 0; k < PLACES; k++) {
                grow(k, times * tint.numbers[k]);
            }
        }

        private int seen(int place, int light) {
            if (place < 0 || place >= PLACES) {
                return 0;
            }
            int behind = place == PLACES - 1 ? 0 : place + 1;
            return light == 0 ? numbers[place] : (3 * numbers[place] + numbers[behind]) / 4;
        }

        private int distance(Shade other, int light) {
            int together = 0;
            for (int k = 0; k < PLACES; k++) {
                together += Math.abs(seen(k, light) - other.seen(k, light));
            }
            return together;
        }

        private int distanceByBoth(Shade other) {
            return distance(other, 0) + distance(other, 1);
        }

        private boolean isInOrder() {
            return areNumbers(numbers[0], numbers[1], numbers[2]);
        }
    }

    private static final class Dye {
        private final int number;
        private final Shade tint = new Shade();
        private final int depth;
        private final int price;
        private final boolean isFast;
        private final int slow;

        private Dye(int number, int depth, int price, boolean isFast, int slow) {
            this.number = number;
            this.depth = depth;
            this.price = price;
            this.isFast = isFast;
            this.slow = slow;
        }
    }

    private static final class Recipe {
        private final int number;
        private final Shade aim = new Shade();
        private final int[] lineKinds = new int[MOST_LINES];
        private final int[] lineSteps = new int[MOST_LINES];
        private final int[] stepKinds = new int[MOST_STEPS];
        private final int[] stepWhats = new int[MOST_STEPS];
        private int lineCount = 0;
        private int stepCount = 0;
        private int hankCount = 0;

        private Recipe(int number) {
            this.number = number;
        }

        /** NONE, if it is an AGAIN without such lines ahead. */
        private int stepsMore(int kind, int what, int times) {
            if (kind == DIP) {
                return times;
            }
            if (kind != AGAIN) {
                return 1;
            }
            int ahead = stepsAhead(what);
            return ahead == NONE ? NONE : ahead * times;
        }

        private int stepsAhead(int lines) {
            if (lines > lineCount) {
                return NONE;
            }
            int together = 0;
            for (int k = lineCount - lines; k < lineCount; k++) {
                if (k < 0 || k >= MOST_LINES || lineKinds[k] == AGAIN) {
                    return NONE;
                }
                together += lineSteps[k];
            }
            return together;
        }

        private void addLine(int kind, int what, int times) {
            int more = stepsMore(kind, what, times);
            if (lineCount >= MOST_LINES || more == NONE) {
                return;
            }
            if (kind == AGAIN) {
                repeatSteps(stepCount - stepsAhead(what), more);
            } else {
                addSteps(kind, kind == AIR ? times : what, more);
            }
            lineKinds[lineCount] = kind;
            lineSteps[lineCount] = more;
            lineCount++;
        }

        private void addSteps(int kind, int what, int count) {
            for (int k = 0; k < count; k++) {
                addStep(kind, what);
            }
        }

        /** What was added by it is there to be repeated in its turn, so that one sweep does all the times. */
        private void repeatSteps(int from, int count) {
            for (int k = 0; k < count; k++) {
                addStep(stepKind(from + k), stepWhat(from + k));
            }
        }

        private void addStep(int kind, int what) {
            if (stepCount < MOST_STEPS) {
                stepKinds[stepCount] = kind;
                stepWhats[stepCount] = what;
                stepCount++;
            }
        }

        private int stepKind(int step) {
            return step >= 0 && step < stepCount ? stepKinds[step] : NONE;
        }

        private int stepWhat(int step) {
            return step >= 0 && step < stepCount ? stepWhats[step] : NONE;
        }

        private int dipCount() {
            int count = 0;
            for (int k = 0; k < stepCount; k++) {
                if (stepKinds[k] == DIP) {
                    count++;
                }
            }
            return count;
        }

        private int usedDyes() {
            int used = 0;
            for (int k = 0; k < stepCount; k++) {
                if (stepKinds[k] == DIP) {
                    used |= 1 << stepWhats[k];
                }
            }
            return used;
        }

        /** Which need of the whole recipe comes first from a step on; behind its last dip, how many there are. */
        private int needAt(int step) {
            int need = NONE;
            int last = NONE;
            for (int k = 0; k < stepCount; k++) {
                if (stepKinds[k] == DIP) {
                    if (stepWhats[k] != last) {
                        need++;
                        last = stepWhats[k];
                    }
                    if (k >= step) {
                        return need;
                    }
                }
            }
            return need + 1;
        }

        private int writeNeeds(int[] row) {
            int count = 0;
            int last = NONE;
            for (int k = 0; k < stepCount && count < row.length; k++) {
                if (stepKinds[k] == DIP && stepWhats[k] != last) {
                    last = stepWhats[k];
                    row[count] = last;
                    count++;
                }
            }
            return count;
        }
    }

    private static final class Bath {
        private Dye dye = null;
        private int strength = 0;
        private int foul = 0;

        private void freshen(Dye with) {
            dye = with;
            strength = MOST_STRENGTH;
            foul = 0;
        }

        private int dyeNumber() {
            return dye == null ? NONE : dye.number;
        }

        private int gain() {
            return (strength + 5) / 6;
        }

        private void weaken(int amount) {
            strength = Math.max(0, strength - amount);
        }
    }

    /** A shade, and what slow dyes still bring to it; it serves hanks, and the trials of what would be. */
    private static final class Cloth {
        private final Shade shade = new Shade();
        private final int[] dueHours = new int[MOST_STEPS];
        private final int[][] coming = new int[MOST_STEPS][PLACES];
        private int pending = 0;

        private void clear() {
            shade.tell(0, 0, 0);
            pending = 0;
        }

        private void losePending() {
            pending = 0;
        }

        private void take(Dye of, int gain, int hour) {
            shade.growBy(of.tint, gain);
            if (of.slow > 0 && pending < MOST_STEPS) {
                dueHours[pending] = hour + of.slow;
                for (int k = 0; k < PLACES; k++) {
                    coming[pending][k] = gain * of.tint.number(k) / 2;
                }
                pending++;
            }
        }

        private void takeFoul(Dye bled) {
            for (int k = 0; k < PLACES; k++) {
                if (bled.tint.number(k) > 0) {
                    shade.grow(k, 1);
                }
            }
        }

        private void receive(int hour) {
            int kept = 0;
            for (int k = 0; k < pending; k++) {
                if (dueHours[k] <= hour) {
                    gainComing(k);
                } else {
                    keepComing(k, kept);
                    kept++;
                }
            }
            pending = kept;
        }

        private void gainComing(int from) {
            for (int k = 0; k < PLACES; k++) {
                shade.grow(k, coming[from][k]);
            }
        }

        private void keepComing(int from, int to) {
            dueHours[to] = dueHours[from];
            for (int k = 0; k < PLACES; k++) {
                coming[to][k] = coming[from][k];
            }
        }
    }

    private static final class Hank {
        private final Recipe recipe;
        private final Cloth cloth = new Cloth();
        private int loose = 0;
        private int stepsDone = 0;
        private int aired = 0;

        private Hank(Recipe recipe) {
            this.recipe = recipe;
        }

        private boolean isDone() {
            return stepsDone >= recipe.stepCount;
        }

        private int nextKind() {
            return recipe.stepKind(stepsDone);
        }

        private int nextWhat() {
            return recipe.stepWhat(stepsDone);
        }

        private void stepOn() {
            stepsDone++;
            aired = 0;
        }

        private void air() {
            if (nextKind() == AIR) {
                aired++;
                if (aired >= nextWhat()) {
                    stepOn();
                }
            }
        }

        private int standing(int band) {
            if (!isDone()) {
                return NOT_DONE;
            }
            if (cloth.shade.distance(recipe.aim, 0) > band) {
                return SECOND;
            }
            return cloth.shade.distance(recipe.aim, 1) > band ? PAIR : GOOD;
        }

        private boolean isInOrder(int band) {
            boolean isJudgedInTime = standing(band) == NOT_DONE || isDone();
            return cloth.shade.isInOrder() && stepsDone <= recipe.stepCount && isJudgedInTime;
        }
    }

    /**
     * Finds the best plan. A fill gives at least one hank what it needs next, so places in the needs only
     * go up and the search ends. What is found stays as long as the hanks planned for, and how many vats
     * there are, stay the same: it tells of places in the needs of whole recipes, and these no longer change.
     */
    private static final class Planner {
        private static final int VAT_PAIRS = 28;
        private static final int MOST_FOUND = (MOST_STEPS + 1) * (MOST_STEPS + 1) * (MOST_STEPS + 1) * VAT_PAIRS;
        private static final int FILL_WEIGHT = 32;
        private static final int MOST_FILLS = PLANNED_HANKS * MOST_STEPS;

        private final int[] prices = new int[MOST_DYES];
        private final int[][] rows = new int[PLANNED_HANKS][MOST_STEPS];
        private final int[] lengths = new int[PLANNED_HANKS];
        private final int[] starts = new int[PLANNED_HANKS];
        private final int[] planned = new int[PLANNED_HANKS];
        private final int[] places = new int[PLANNED_HANKS];
        private int hankCount = 0;
        private int vatCount = 0;
        private int left = NONE;
        private int right = NONE;
        private boolean isOther = true;
        private int[] found = new int[0];

        private void tellPrice(int dye, int price) {
            if (dye >= 0 && dye < MOST_DYES) {
                prices[dye] = price;
            }
        }

        private void begin(int vats, int inFirst, int inSecond) {
            isOther = isOther || vats != vatCount;
            vatCount = vats;
            left = inFirst;
            right = inSecond;
            hankCount = 0;
        }

        private void addHank(Recipe of, int step) {
            if (hankCount >= PLANNED_HANKS) {
                return;
            }
            if (planned[hankCount] != of.number + 1) {
                isOther = true;
                planned[hankCount] = of.number + 1;
                lengths[hankCount] = of.writeNeeds(rows[hankCount]);
            }
            starts[hankCount] = of.needAt(step);
            hankCount++;
        }

        private void end() {
            for (int k = hankCount; k < PLANNED_HANKS; k++) {
                isOther = isOther || planned[k] != 0;
                planned[k] = 0;
                lengths[k] = 0;
                starts[k] = 0;
            }
            if (isOther) {
                forget();
                isOther = false;
            }
        }

        /** The room doubles as it grows, so that all rooms made together stay small. */
        private void forget() {
            int size = (lengths[0] + 1) * (lengths[1] + 1) * (lengths[2] + 1) * VAT_PAIRS;
            if (size > found.length) {
                found = new int[Math.max(size, Math.min(MOST_FOUND, 2 * found.length))];
            } else {
                Arrays.fill(found, 0);
            }
        }

        private int needCount() {
            int count = 0;
            for (int k = 0; k < PLANNED_HANKS; k++) {
                count += lengths[k] - starts[k];
            }
            return count;
        }

        private int plainCost() {
            int cost = 0;
            for (int k = 0; k < PLANNED_HANKS; k++) {
                for (int place = starts[k]; place < lengths[k]; place++) {
                    cost += price(need(k, place));
                }
            }
            return cost;
        }

        private boolean isThere() {
            return vatCount > 0 || needCount() == 0;
        }

        private int cost() {
            return isThere() ? leastFromStart() / FILL_WEIGHT : NONE;
        }

        private int fillCount() {
            return isThere() ? leastFromStart() % FILL_WEIGHT : NONE;
        }

        private int leastFromStart() {
            return least(starts[0], starts[1], starts[2], left, right, 0);
        }

        private int price(int dye) {
            return dye >= 0 && dye < MOST_DYES ? prices[dye] : 0;
        }

        private int need(int row, int place) {
            boolean isRow = row >= 0 && row < PLANNED_HANKS;
            return isRow && place >= 0 && place < lengths[row] && place < MOST_STEPS ? rows[row][place] : NONE;
        }

        private int reach(int row, int from, int first, int second) {
            for (int place = from; place < MOST_STEPS; place++) {
                int needed = need(row, place);
                if (needed == NONE || needed != first && needed != second) {
                    return place;
                }
            }
            return MOST_STEPS;
        }

        /**
         * The best plan from there, its cost and its fills in one number (so that the cost counts first).
         * It is the same with the two baths changed, and found once for both.
         */
        private int least(int one, int two, int three, int first, int second, int depth) {
            int a = reach(0, one, first, second);
            int b = reach(1, two, first, second);
            int c = reach(2, three, first, second);
            int needA = need(0, a);
            int needB = need(1, b);
            int needC = need(2, c);
            if (needA == NONE && needB == NONE && needC == NONE) {
                return 0;
            }
            int index = ((a * (lengths[1] + 1) + b) * (lengths[2] + 1) + c) * VAT_PAIRS + pair(first, second);
            if (depth > MOST_FILLS || index < 0 || index >= found.length) {
                return TOO_MUCH;
            }
            if (found[index] == 0) {
                int best = leastBehind(needA, a, b, c, first, second, depth);
                if (needB != needA) {
                    best = Math.min(best, leastBehind(needB, a, b, c, first, second, depth));
                }
                if (needC != needA && needC != needB) {
                    best = Math.min(best, leastBehind(needC, a, b, c, first, second, depth));
                }
                found[index] = best + 1;
            }
            return found[index] - 1;
        }

        private int leastBehind(int dye, int one, int two, int three, int first, int second, int depth) {
            if (dye == NONE) {
                return TOO_MUCH;
            }
            int best = least(one, two, three, dye, second, depth + 1);
            if (vatCount > 1) {
                best = Math.min(best, least(one, two, three, first, dye, depth + 1));
            }
            return best + price(dye) * FILL_WEIGHT + 1;
        }

        private static int pair(int first, int second) {
            int more = Math.max(first, second) + 1;
            int less = Math.min(first, second) + 1;
            return more * (more + 1) / 2 + less;
        }

        private String written() {
            StringBuilder text = new StringBuilder();
            if (!isThere()) {
                text.append("none");
                return text.toString();
            }
            int first = left;
            int second = right;
            System.arraycopy(starts, 0, places, 0, PLANNED_HANKS);
            for (int count = 0; count < MOST_FILLS && !isOver(first, second); count++) {
                int fill = firstFill(first, second);
                int dye = fill % MOST_DYES;
                text.append(count == 0 ? "" : " ").append(fill / MOST_DYES).append(':').append(dye);
                if (fill / MOST_DYES == 0) {
                    first = dye;
                } else {
                    second = dye;
                }
            }
            if (text.length() == 0) {
                text.append('-');
            }
            return text.toString();
        }

        private boolean isOver(int first, int second) {
            boolean isOver = true;
            for (int k = 0; k < PLANNED_HANKS; k++) {
                places[k] = reach(k, places[k], first, second);
                isOver = isOver && need(k, places[k]) == NONE;
            }
            return isOver;
        }

        /** The smallest fill, vat ahead of dye, behind which what is left is still the best plan. */
        private int firstFill(int first, int second) {
            int whole = least(places[0], places[1], places[2], first, second, 0);
            for (int vat = 0; vat < vatCount; vat++) {
                for (int dye = 0; dye < MOST_DYES; dye++) {
                    int inFirst = vat == 0 ? dye : first;
                    int inSecond = vat == 0 ? second : dye;
                    int rest = whole - price(dye) * FILL_WEIGHT - 1;
                    if (isNeeded(dye) && rest == least(places[0], places[1], places[2], inFirst, inSecond, 1)) {
                        return vat * MOST_DYES + dye;
                    }
                }
            }
            return 0;
        }

        private boolean isNeeded(int dye) {
            for (int k = 0; k < PLANNED_HANKS; k++) {
                if (need(k, places[k]) == dye) {
                    return true;
                }
            }
            return false;
        }
    }
}
