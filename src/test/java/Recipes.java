/** Tells recipes by a short text: "0*2" dips dye 0 twice, "r" rinses, "a3" airs 3 hours, "again2*1" does 2 lines once more. */
final class Recipes {
    private Recipes() {
    }

    static int tell(Vatcompiler x, String lines) {
        return tell(x, 0, 0, 0, lines);
    }

    static int tell(Vatcompiler x, int one, int two, int three, String lines) {
        int recipe = x.recipe(one, two, three);
        for (String line : lines.split(" ")) {
            if (!line.isEmpty()) {
                add(x, recipe, line);
            }
        }
        return recipe;
    }

    /** Answers how many steps there are then, as the call does. */
    static int add(Vatcompiler x, int recipe, String line) {
        if (line.equals("r")) {
            return x.line(recipe, 1, 0, 0);
        }
        if (line.startsWith("again")) {
            String[] numbers = line.substring(5).split("\\*");
            return x.line(recipe, 3, Integer.parseInt(numbers[0]), Integer.parseInt(numbers[1]));
        }
        if (line.startsWith("a")) {
            return x.line(recipe, 2, 0, Integer.parseInt(line.substring(1)));
        }
        String[] numbers = line.split("\\*");
        return x.line(recipe, 0, Integer.parseInt(numbers[0]), numbers.length > 1 ? Integer.parseInt(numbers[1]) : 1);
    }

    /** One hank of a new recipe. */
    static int hank(Vatcompiler x, String lines) {
        return x.hank(tell(x, lines));
    }
}
