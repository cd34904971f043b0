import java.util.ArrayList;
import java.util.Arrays;
import java.util.HashSet;
import java.util.List;
import java.util.PriorityQueue;
import java.util.Set;
import java.util.TreeSet;

/** A second model of the document, as plain as can be and without regard to speed: the tests compare the class with it. */
final class Reference {
    record Dye(int[] tint, int depth, int price, boolean fast, int slow) { }

    record Line(int kind, int what, int times) { }

    record Coming(int hour, int[] amounts) { }

    static final class Recipe {
        int[] aim;
        List<Line> lines = new ArrayList<>();
    }

    static final class Bath {
        int dye = -1;
        int strength = 0;
        Set<Integer> foul = new TreeSet<>();
    }

    static final class Hank {
        int recipe;
        int[] shade = new int[3];
        Set<Integer> loose = new TreeSet<>();
        int done = 0;
        int aired = 0;
        List<Coming> coming = new ArrayList<>();
    }

    record Path(int[] places, int[] baths, int cost, List<int[]> fills) { }

    private final List<Dye> dyes = new ArrayList<>();
    private final List<Recipe> recipes = new ArrayList<>();
    private final List<Bath> vats = new ArrayList<>();
    private final Bath[] tubs = {new Bath(), new Bath()};
    private final List<Hank> hanks = new ArrayList<>();
    private int hour;
    private int limit = 4;
    private int band = 10;
    private int paid;
    private int water;
    private int waterNow;
    private int dips;

    private static void index(boolean isThere) {
        if (!isThere) {
            throw new IndexOutOfBoundsException();
        }
    }

    private static void argument(boolean isRight) {
        if (!isRight) {
            throw new IllegalArgumentException();
        }
    }

    private static void state(boolean isRight) {
        if (!isRight) {
            throw new IllegalStateException();
        }
    }

    private static boolean in(int number, int least, int most) {
        return least <= number && number <= most;
    }

    int dye(int tint, int depth, int price, boolean fast, int slow) {
        argument(in(tint, 0, 999) && in(depth, 1, 9) && in(price, 1, 99) && in(slow, 0, 3));
        state(dyes.size() < 6);
        String digits = String.format("%03d", tint);
        int[] numbers = {digits.charAt(0) - '0', digits.charAt(1) - '0', digits.charAt(2) - '0'};
        dyes.add(new Dye(numbers, depth, price, fast, slow));
        return dyes.size() - 1;
    }

    int recipe(int one, int two, int three) {
        argument(in(one, 0, 99) && in(two, 0, 99) && in(three, 0, 99));
        state(recipes.size() < 6);
        Recipe told = new Recipe();
        told.aim = new int[] {one, two, three};
        recipes.add(told);
        return recipes.size() - 1;
    }

    int line(int recipe, int kind, int what, int times) {
        index(in(recipe, 0, recipes.size() - 1));
        index(kind != 0 || in(what, 0, dyes.size() - 1));
        argument(in(kind, 0, 3));
        argument(kind == 0 || (kind == 3 ? in(what, 1, 3) : what == 0));
        argument(kind == 1 ? times == 0 : in(times, 1, kind == 3 ? 3 : 4));
        Recipe of = recipes.get(recipe);
        state(hanks.stream().noneMatch(h -> h.recipe == recipe));
        state(of.lines.size() < 8);
        if (kind == 3) {
            state(of.lines.size() >= what);
            state(of.lines.subList(of.lines.size() - what, of.lines.size()).stream().noneMatch(l -> l.kind == 3));
        }
        of.lines.add(new Line(kind, what, times));
        int count = written(of).size();
        if (count > 10) {
            of.lines.remove(of.lines.size() - 1);
            throw new IllegalStateException();
        }
        return count;
    }

    /** Each step as the line of kind 0 (once), 1 or 2 that it is. */
    private static List<Line> written(Recipe of) {
        List<Line> steps = new ArrayList<>();
        for (int k = 0; k < of.lines.size(); k++) {
            Line line = of.lines.get(k);
            if (line.kind != 3) {
                write(steps, line);
                continue;
            }
            for (int time = 0; time < line.times; time++) {
                for (int ahead = k - line.what; ahead < k; ahead++) {
                    write(steps, of.lines.get(ahead));
                }
            }
        }
        return steps;
    }

    private static void write(List<Line> steps, Line line) {
        for (int time = 0; time < (line.kind == 0 ? line.times : 1); time++) {
            steps.add(line);
        }
    }

    int vat() {
        state(vats.size() < 3);
        vats.add(new Bath());
        return vats.size() - 1;
    }

    int fill(int vat, int dye) {
        index(in(vat, 0, vats.size() - 1) && in(dye, 0, dyes.size() - 1));
        if (vats.get(vat).dye >= 0) {
            letOut(2);
        }
        Bath fresh = new Bath();
        fresh.dye = dye;
        fresh.strength = 30;
        vats.set(vat, fresh);
        paid += dyes.get(dye).price;
        return paid;
    }

    private void letOut(int measures) {
        state(waterNow + measures <= limit);
        waterNow += measures;
        water += measures;
    }

    int spill(int vat, int tub) {
        index(in(vat, 0, vats.size() - 1) && in(tub, 0, 1));
        Bath was = vats.get(vat);
        vats.set(vat, tubs[tub]);
        tubs[tub] = was;
        return vats.get(vat).dye;
    }

    int hank(int recipe) {
        index(in(recipe, 0, recipes.size() - 1));
        state(hanks.size() < 10 && !recipes.get(recipe).lines.isEmpty());
        Hank told = new Hank();
        told.recipe = recipe;
        hanks.add(told);
        return hanks.size() - 1;
    }

    private Line ahead(Hank of) {
        List<Line> steps = written(recipes.get(of.recipe));
        return of.done < steps.size() ? steps.get(of.done) : null;
    }

    boolean can(int set, int vat) {
        index(in(vat, 0, vats.size() - 1));
        argument(set > 0 && set < Math.pow(2, hanks.size()));
        for (Hank one : members(set)) {
            Line step = ahead(one);
            Bath in = vats.get(vat);
            if (step == null || step.kind != 0 || step.what != in.dye || in.strength < 1) {
                return false;
            }
        }
        return true;
    }

    private List<Hank> members(int set) {
        List<Hank> members = new ArrayList<>();
        for (int k = 0; k < hanks.size(); k++) {
            if ((set & 1 << k) != 0) {
                members.add(hanks.get(k));
            }
        }
        return members;
    }

    int dip(int set, int vat) {
        state(can(set, vat));
        Bath in = vats.get(vat);
        Dye dye = dyes.get(in.dye);
        int gain = (in.strength + 5) / 6;
        Set<Integer> bled = new TreeSet<>(in.foul);
        for (Hank one : members(set)) {
            for (int k = 0; k < 3; k++) {
                int more = gain * dye.tint[k];
                for (int foul : in.foul) {
                    more += dyes.get(foul).tint[k] > 0 ? 1 : 0;
                }
                one.shade[k] = Math.min(99, one.shade[k] + more);
            }
            for (int loose : one.loose) {
                if (loose != in.dye && dyes.get(loose).depth >= dye.depth) {
                    bled.add(loose);
                }
            }
            if (!dye.fast) {
                one.loose.add(in.dye);
            }
            if (dye.slow > 0) {
                one.coming.add(new Coming(hour + dye.slow, brings(dye, gain)));
            }
            one.done++;
            dips++;
        }
        in.foul = bled;
        in.strength = Math.max(0, in.strength - (members(set).size() + 1) / 2);
        return gain;
    }

    private static int[] brings(Dye dye, int gain) {
        return new int[] {gain * dye.tint[0] / 2, gain * dye.tint[1] / 2, gain * dye.tint[2] / 2};
    }

    int rinse(int hank) {
        index(in(hank, 0, hanks.size() - 1));
        letOut(1);
        Hank of = hanks.get(hank);
        int count = of.loose.size();
        of.loose.clear();
        of.coming.clear();
        Line step = ahead(of);
        if (step != null && step.kind == 1) {
            of.done++;
        }
        return count;
    }

    int pass(int hours) {
        argument(in(hours, 1, 24));
        state(hour + hours <= 500);
        for (int k = 0; k < hours; k++) {
            oneHour();
        }
        return hour;
    }

    private void oneHour() {
        hour++;
        waterNow = 0;
        for (Hank one : hanks) {
            for (Coming coming : one.coming) {
                if (coming.hour == hour) {
                    gain(one.shade, coming.amounts);
                }
            }
            one.coming.removeIf(c -> c.hour == hour);
            Line step = ahead(one);
            if (step != null && step.kind == 2) {
                one.aired++;
                if (one.aired == step.times) {
                    one.aired = 0;
                    one.done++;
                }
            }
        }
        if (hour % 4 == 0) {
            List<Bath> all = new ArrayList<>(vats);
            all.addAll(Arrays.asList(tubs));
            for (Bath bath : all) {
                bath.strength = Math.max(0, bath.strength - 1);
            }
        }
    }

    private static void gain(int[] shade, int[] amounts) {
        for (int k = 0; k < 3; k++) {
            shade[k] = Math.min(99, shade[k] + amounts[k]);
        }
    }

    int rules(int newLimit, int newBand) {
        argument(in(newLimit, 1, 9) && in(newBand, 0, 99));
        int before = limit;
        limit = newLimit;
        band = newBand;
        return before;
    }

    int ofDye(int dye, int what) {
        index(in(dye, 0, dyes.size() - 1));
        argument(in(what, 0, 7));
        Dye of = dyes.get(dye);
        int baths = 0;
        for (int k = 0; k < 5; k++) {
            Bath bath = k < 2 ? tubs[k] : k - 2 < vats.size() ? vats.get(k - 2) : null;
            baths += bath != null && bath.dye == dye ? 1 : 0;
        }
        return new int[] {of.tint[0], of.tint[1], of.tint[2], of.depth, of.price, of.fast ? 1 : 0, of.slow, baths}[what];
    }

    int ofRecipe(int recipe, int what) {
        index(in(recipe, 0, recipes.size() - 1));
        argument(in(what, 0, 7));
        Recipe of = recipes.get(recipe);
        int having = 0;
        int good = 0;
        for (Hank one : hanks) {
            having += one.recipe == recipe ? 1 : 0;
            good += one.recipe == recipe && standing(one) == 1 ? 1 : 0;
        }
        List<Line> all = written(of);
        int dipSteps = (int) all.stream().filter(l -> l.kind == 0).count();
        return new int[] {of.lines.size(), all.size(), dipSteps, having, of.aim[0], of.aim[1], of.aim[2], good}[what];
    }

    String steps(int recipe) {
        index(in(recipe, 0, recipes.size() - 1));
        String text = "";
        for (Line step : written(recipes.get(recipe))) {
            text += step.kind == 0 ? "" + step.what : step.kind == 1 ? "r" : "a";
        }
        return text.isEmpty() ? "-" : text;
    }

    int bath(boolean isTub, int number, int what) {
        index(in(number, 0, isTub ? 1 : vats.size() - 1));
        argument(in(what, 0, 2));
        Bath of = isTub ? tubs[number] : vats.get(number);
        int foul = 0;
        for (int dye : of.foul) {
            foul += 1 << dye;
        }
        return what == 0 ? of.dye : what == 1 ? of.strength : foul;
    }

    private static int[] seen(int[] s, int light) {
        return light == 0 ? s : new int[] {(3 * s[0] + s[1]) / 4, (3 * s[1] + s[2]) / 4, (3 * s[2] + s[0]) / 4};
    }

    private static int far(int[] one, int[] other, int light) {
        int[] a = seen(one, light);
        int[] b = seen(other, light);
        return Math.abs(a[0] - b[0]) + Math.abs(a[1] - b[1]) + Math.abs(a[2] - b[2]);
    }

    private static int both(int[] one, int[] other) {
        return far(one, other, 0) + far(one, other, 1);
    }

    private int standing(Hank of) {
        if (ahead(of) != null) {
            return 0;
        }
        int[] aim = recipes.get(of.recipe).aim;
        boolean byDay = far(of.shade, aim, 0) <= band;
        boolean byLamp = far(of.shade, aim, 1) <= band;
        return byDay && byLamp ? 1 : byDay ? 2 : 3;
    }

    int ofHank(int hank, int what) {
        index(in(hank, 0, hanks.size() - 1));
        argument(in(what, 0, 11));
        Hank of = hanks.get(hank);
        int loose = 0;
        for (int dye : of.loose) {
            loose += 1 << dye;
        }
        int[] aim = recipes.get(of.recipe).aim;
        return new int[] {of.recipe, of.shade[0], of.shade[1], of.shade[2], of.done, ahead(of) == null ? 1 : 0, loose,
            of.coming.size(), of.aired, standing(of), far(of.shade, aim, 0), far(of.shade, aim, 1)}[what];
    }

    String next(int hank) {
        index(in(hank, 0, hanks.size() - 1));
        Hank of = hanks.get(hank);
        Line step = ahead(of);
        if (step == null) {
            return "done";
        }
        return step.kind == 0 ? "dip " + step.what : step.kind == 1 ? "rinse" : "air " + (step.times - of.aired);
    }

    int far(int one, int other, int light) {
        index(in(one, 0, hanks.size() - 1) && in(other, 0, hanks.size() - 1));
        argument(in(light, 0, 1));
        return far(hanks.get(one).shade, hanks.get(other).shade, light);
    }

    int street(int what) {
        argument(in(what, 0, 14));
        int[] standings = new int[4];
        for (Hank one : hanks) {
            standings[standing(one)]++;
        }
        return new int[] {hour, dyes.size(), recipes.size(), vats.size(), hanks.size(), hanks.size() - standings[0],
            standings[1], standings[2], standings[3], paid, water, waterNow, limit, band, dips}[what];
    }

    private List<List<Integer>> needs() {
        List<List<Integer>> all = new ArrayList<>();
        for (Hank one : hanks) {
            if (ahead(one) == null || all.size() == 3) {
                continue;
            }
            List<Line> steps = written(recipes.get(one.recipe));
            List<Integer> row = new ArrayList<>();
            for (Line step : steps.subList(one.done, steps.size())) {
                if (step.kind == 0 && (row.isEmpty() || row.get(row.size() - 1) != step.what)) {
                    row.add(step.what);
                }
            }
            all.add(row);
        }
        return all;
    }

    /** Uniform cost search: the path that is drawn first is the best one by cost, fills and the fills themselves. */
    private Path bestPlan() {
        List<List<Integer>> needs = needs();
        int used = Math.min(2, vats.size());
        int[] baths = new int[used];
        for (int k = 0; k < used; k++) {
            baths[k] = vats.get(k).dye;
        }
        PriorityQueue<Path> queue = new PriorityQueue<>(Reference::compare);
        Set<String> seen = new HashSet<>();
        queue.add(new Path(new int[needs.size()], baths, 0, new ArrayList<>()));
        while (!queue.isEmpty()) {
            Path path = queue.poll();
            take(needs, path);
            if (!seen.add(Arrays.toString(path.places) + Arrays.toString(path.baths))) {
                continue;
            }
            Set<Integer> wanted = new TreeSet<>();
            for (int k = 0; k < needs.size(); k++) {
                if (path.places[k] < needs.get(k).size()) {
                    wanted.add(needs.get(k).get(path.places[k]));
                }
            }
            if (wanted.isEmpty()) {
                return path;
            }
            for (int vat = 0; vat < used; vat++) {
                for (int dye : wanted) {
                    queue.add(filled(path, vat, dye));
                }
            }
        }
        return null;
    }

    private Path filled(Path path, int vat, int dye) {
        int[] baths = path.baths.clone();
        baths[vat] = dye;
        List<int[]> fills = new ArrayList<>(path.fills);
        fills.add(new int[] {vat, dye});
        return new Path(path.places.clone(), baths, path.cost + dyes.get(dye).price, fills);
    }

    private static void take(List<List<Integer>> needs, Path path) {
        for (int k = 0; k < needs.size(); k++) {
            List<Integer> row = needs.get(k);
            boolean goesOn = true;
            while (goesOn && path.places[k] < row.size()) {
                goesOn = false;
                for (int bath : path.baths) {
                    goesOn |= bath == row.get(path.places[k]);
                }
                path.places[k] += goesOn ? 1 : 0;
            }
        }
    }

    private static int compare(Path one, Path other) {
        if (one.cost != other.cost) {
            return one.cost - other.cost;
        }
        if (one.fills.size() != other.fills.size()) {
            return one.fills.size() - other.fills.size();
        }
        for (int k = 0; k < one.fills.size(); k++) {
            int order = Arrays.compare(one.fills.get(k), other.fills.get(k));
            if (order != 0) {
                return order;
            }
        }
        return 0;
    }

    int plan(int what) {
        argument(in(what, 0, 4));
        List<List<Integer>> needs = needs();
        if (what == 3) {
            return needs.size();
        }
        if (what < 2) {
            Path best = bestPlan();
            return best == null ? -1 : what == 0 ? best.cost : best.fills.size();
        }
        int sum = 0;
        for (List<Integer> row : needs) {
            for (int dye : row) {
                sum += what == 2 ? dyes.get(dye).price : 1;
            }
        }
        return sum;
    }

    String fills() {
        Path best = bestPlan();
        if (best == null) {
            return "none";
        }
        List<String> parts = new ArrayList<>();
        for (int[] fill : best.fills) {
            parts.add(fill[0] + ":" + fill[1]);
        }
        return parts.isEmpty() ? "-" : String.join(" ", parts);
    }

    int match(int one, int two, int three, boolean isFar) {
        argument(in(one, 0, 99) && in(two, 0, 99) && in(three, 0, 99));
        state(!dyes.isEmpty());
        int[] aim = {one, two, three};
        int places = Math.min(3, dyes.size());
        int[] best = null;
        for (int number = 0; number <= 555; number++) {
            String digits = String.valueOf(1000 + number).substring(1);
            if (!digits.matches("[0-5]*") || number >= Math.pow(10, places)) {
                continue;
            }
            int[] made = new int[3];
            int price = 0;
            for (int k = 0; k < places; k++) {
                int amount = digits.charAt(3 - places + k) - '0';
                price += amount * dyes.get(k).price;
                for (int j = 0; j < 3; j++) {
                    made[j] += amount * dyes.get(k).tint[j];
                }
            }
            for (int j = 0; j < 3; j++) {
                made[j] = Math.min(99, made[j]);
            }
            int[] key = {both(made, aim), price, number};
            if (best == null || Arrays.compare(key, best) < 0) {
                best = key;
            }
        }
        return isFar ? best[0] : best[2];
    }

    int rescue(int hank) {
        index(in(hank, 0, hanks.size() - 1));
        Hank of = hanks.get(hank);
        if (standing(of) != 3) {
            return -1;
        }
        int[] aim = recipes.get(of.recipe).aim;
        int best = -1;
        int nearest = both(of.shade, aim);
        for (int k = 0; k < dyes.size(); k++) {
            int[] then = of.shade.clone();
            Dye dye = dyes.get(k);
            gain(then, new int[] {5 * dye.tint[0], 5 * dye.tint[1], 5 * dye.tint[2]});
            if (dye.slow > 0) {
                gain(then, brings(dye, 5));
            }
            if (both(then, aim) < nearest) {
                nearest = both(then, aim);
                best = k;
            }
        }
        return best;
    }

    int wouldBe(int recipe, int what) {
        index(in(recipe, 0, recipes.size() - 1));
        argument(in(what, 0, 3));
        int[] shade = new int[3];
        Set<Integer> used = new TreeSet<>();
        List<Coming> coming = new ArrayList<>();
        int clock = 0;
        for (Line step : written(recipes.get(recipe))) {
            if (step.kind == 0) {
                Dye dye = dyes.get(step.what);
                used.add(step.what);
                gain(shade, new int[] {5 * dye.tint[0], 5 * dye.tint[1], 5 * dye.tint[2]});
                if (dye.slow > 0) {
                    coming.add(new Coming(clock + dye.slow, brings(dye, 5)));
                }
            } else if (step.kind == 1) {
                coming.clear();
            } else {
                for (int k = 0; k < step.times; k++) {
                    clock++;
                    come(shade, coming, clock);
                }
            }
        }
        for (int k = 0; k < 3; k++) {
            clock++;
            come(shade, coming, clock);
        }
        return what < 3 ? shade[what] : used.stream().mapToInt(d -> dyes.get(d).price).sum();
    }

    private static void come(int[] shade, List<Coming> coming, int clock) {
        for (Coming one : coming) {
            if (one.hour == clock) {
                gain(shade, one.amounts);
            }
        }
        coming.removeIf(c -> c.hour == clock);
    }

    boolean isSound() {
        return true;
    }

    long digest() {
        long d = 7109;
        for (int what = 0; what <= 14; what++) {
            d = d * 31 + street(what);
        }
        for (int k = 0; k < dyes.size(); k++) {
            d = d * 31 + ofDye(k, 7);
        }
        for (int k = 0; k < recipes.size(); k++) {
            for (int what = 0; what <= 7; what++) {
                d = d * 31 + ofRecipe(k, what);
            }
            for (int what = 0; what <= 3; what++) {
                d = d * 31 + wouldBe(k, what);
            }
        }
        for (int k = 0; k < vats.size() + 2; k++) {
            for (int what = 0; what <= 2; what++) {
                d = d * 31 + (k < vats.size() ? bath(false, k, what) : bath(true, k - vats.size(), what));
            }
        }
        for (int k = 0; k < hanks.size(); k++) {
            for (int what = 0; what <= 11; what++) {
                d = d * 31 + ofHank(k, what);
            }
            d = d * 31 + rescue(k);
        }
        for (int what = 0; what <= 4; what++) {
            d = d * 31 + plan(what);
        }
        return d * 31 + 1;
    }
}
