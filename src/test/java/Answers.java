/** All that a street answers without being changed, as one text: so two states can be told from each other. */
final class Answers {
    private final Vatcompiler x;
    private final StringBuilder text = new StringBuilder();

    private Answers(Vatcompiler x) {
        this.x = x;
    }

    /** Some 400 calls for the fullest street. */
    static String all(Vatcompiler x) {
        Answers answers = new Answers(x);
        answers.street();
        answers.dyesAndRecipes();
        answers.baths();
        answers.hanks();
        answers.wouldBe();
        return answers.text.toString();
    }

    private void add(Object answer) {
        text.append(answer).append(' ');
    }

    private void street() {
        text.append("street ");
        for (int what = 0; what <= 14; what++) {
            add(x.street(what));
        }
    }

    private void dyesAndRecipes() {
        int dyes = x.street(1);
        int recipes = x.street(2);
        for (int k = 0; k < dyes; k++) {
            text.append("| dye ");
            for (int what = 0; what <= 7; what++) {
                add(x.ofDye(k, what));
            }
        }
        for (int k = 0; k < recipes; k++) {
            text.append("| recipe ");
            for (int what = 0; what <= 7; what++) {
                add(x.ofRecipe(k, what));
            }
            add(x.steps(k));
        }
    }

    private void baths() {
        int vats = x.street(3);
        for (int k = 0; k < vats + 2; k++) {
            text.append("| bath ");
            for (int what = 0; what <= 2; what++) {
                add(x.bath(k >= vats, k >= vats ? k - vats : k, what));
            }
        }
    }

    private void hanks() {
        int hanks = x.street(4);
        for (int k = 0; k < hanks; k++) {
            text.append("| hank ");
            for (int what = 0; what <= 11; what++) {
                add(x.ofHank(k, what));
            }
            add(x.next(k));
            add(x.far(k, 0, 0));
            add(x.far(0, k, 1));
            add(x.rescue(k));
        }
    }

    private void wouldBe() {
        int recipes = x.street(2);
        int vats = x.street(3);
        int hanks = x.street(4);
        text.append("| would be ");
        for (int k = 0; k < recipes; k++) {
            for (int what = 0; what <= 3; what++) {
                add(x.wouldBe(k, what));
            }
        }
        for (int vat = 0; vat < vats; vat++) {
            for (int k = 0; k < hanks; k++) {
                add(x.can(1 << k, vat));
            }
        }
        for (int what = 0; what <= 4; what++) {
            add(x.plan(what));
        }
        add(x.fills());
        if (x.street(1) > 0) {
            add(x.match(50, 30, 10, true));
            add(x.match(50, 30, 10, false));
        }
        add(x.isSound());
        add(x.digest());
    }
}
