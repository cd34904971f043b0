import java.util.Random;

/** Plans for three hanks with long needs, against the plain model's search of another kind. */
public final class PlansTest {
    private static final int STREETS = 250;

    public static void main(String[] args) {
        Random random = new Random(77);
        for (int k = 0; k < STREETS; k++) {
            oneStreet(k, random);
        }
        Checks.end("PlansTest");
    }

    /** Few prices make many plans that are equally good, so that the order of fills decides. */
    private static void oneStreet(int number, Random random) {
        Vatcompiler own = new Vatcompiler();
        Reference due = new Reference();
        int dyes = 2 + random.nextInt(5);
        int prices = new int[] {1, 2, 3, 99}[random.nextInt(4)];
        for (int k = 0; k < dyes; k++) {
            int price = 1 + random.nextInt(prices);
            own.dye(111, 1, price, true, 0);
            due.dye(111, 1, price, true, 0);
        }
        int recipes = 1 + random.nextInt(4);
        for (int k = 0; k < recipes; k++) {
            own.recipe(0, 0, 0);
            due.recipe(0, 0, 0);
            int lines = 1 + random.nextInt(7);
            for (int l = 0; l < lines; l++) {
                int dye = random.nextInt(dyes);
                own.line(k, 0, dye, 1);
                due.line(k, 0, dye, 1);
            }
            again(own, due, k, 1 + random.nextInt(3), 1 + random.nextInt(3));
        }
        int hanks = 1 + random.nextInt(5);
        for (int k = 0; k < hanks; k++) {
            int recipe = random.nextInt(recipes);
            own.hank(recipe);
            due.hank(recipe);
        }
        own.vat();
        due.vat();
        goOn(number, own, due, random, dyes);
    }

    private static void again(Vatcompiler own, Reference due, int recipe, int lines, int times) {
        try {
            due.line(recipe, 3, lines, times);
        } catch (IllegalStateException thrown) {
            return;
        }
        own.line(recipe, 3, lines, times);
    }

    private static void goOn(int number, Vatcompiler own, Reference due, Random random, int dyes) {
        compare(number + ", one vat", own, due);
        own.vat();
        due.vat();
        for (int k = 0; k < 6; k++) {
            compare(number + ", turn " + k, own, due);
            int vat = random.nextInt(2);
            int dye = random.nextInt(dyes);
            own.pass(1);
            due.pass(1);
            own.fill(vat, dye);
            due.fill(vat, dye);
            for (int hank = 0; hank < due.street(4); hank++) {
                if (due.can(1 << hank, vat) && random.nextBoolean()) {
                    due.dip(1 << hank, vat);
                    own.dip(1 << hank, vat);
                }
            }
        }
    }

    private static void compare(String street, Vatcompiler own, Reference due) {
        Checks.same("street " + street + ": fills()", own.fills(), due.fills());
        for (int what = 0; what <= 4; what++) {
            Checks.same("street " + street + ": plan(" + what + ")", own.plan(what), due.plan(what));
        }
    }
}
