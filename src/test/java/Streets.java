/** Streets that many tests begin with. */
final class Streets {
    private Streets() {
    }

    /** One fast dye that makes no haste, depth and price 1, one vat filled with it, one hank of these lines. */
    static Vatcompiler withDye(int tint, String lines) {
        return withDye(tint, true, 0, lines);
    }

    static Vatcompiler withDye(int tint, boolean isFast, int slow, String lines) {
        Vatcompiler x = new Vatcompiler();
        x.dye(tint, 1, 1, isFast, slow);
        Recipes.hank(x, lines);
        x.vat();
        x.fill(0, 0);
        return x;
    }

    /** A fresh vat 0 with this strength; hours go by for it, six a day. */
    static void weaken(Vatcompiler x, int strength) {
        int less = 30 - strength;
        for (int k = 0; k < less / 6; k++) {
            x.pass(24);
        }
        for (int k = 0; k < less % 6; k++) {
            x.pass(4);
        }
        Checks.same("strength by hours", x.bath(false, 0, 1), strength);
    }

    /** Fast dyes of these prices. */
    static Vatcompiler priced(int vats, int... prices) {
        Vatcompiler x = new Vatcompiler();
        for (int price : prices) {
            x.dye(100, 1, price, true, 0);
        }
        for (int k = 0; k < vats; k++) {
            x.vat();
        }
        return x;
    }

    /** One hank of this aim, dipped once in a fresh bath of the tint: 5 times its numbers. */
    static Vatcompiler dippedOnce(int tint, int one, int two, int three) {
        Vatcompiler x = new Vatcompiler();
        x.dye(tint, 1, 1, true, 0);
        x.hank(Recipes.tell(x, one, two, three, "0"));
        x.vat();
        x.fill(0, 0);
        x.dip(1, 0);
        return x;
    }
}
