/** All that can be asked of an object, in one row; it can't be used any more then. */
final class Whole {
    private final WalledIn x;
    private final StringBuilder all = new StringBuilder();

    private Whole(WalledIn x) {
        this.x = x;
    }

    static String of(WalledIn x) {
        return before(x).all.toString();
    }

    /** The same, and what THE IMAGE is. */
    static String withImage(WalledIn x) {
        Whole whole = before(x);
        whole.tellImage();
        return whole.all.toString();
    }

    private static Whole before(WalledIn x) {
        Whole whole = new Whole(x);
        whole.tellNumbers();
        whole.tellStones();
        whole.tellOrders();
        whole.tellHouses();
        whole.tellTexts();
        whole.tellSteps();
        return whole;
    }

    private void add(String what, long value) {
        all.append(what).append(' ').append(value).append(", ");
    }

    private void tellNumbers() {
        for (int i = 0; i <= 8; i++) {
            add("about " + i, x.about(i));
        }
        add("fault 0", x.fault(0));
        add("fault 1", x.fault(1));
    }

    private void tellStones() {
        for (int i = 0; i < x.about(0); i++) {
            add("bearers " + i, x.about(10 + i));
            add("need " + i, x.about(30 + i));
            for (int what = 1; what <= 3; what++) {
                add("of " + i + " " + what, x.of(i, what));
            }
        }
    }

    private void tellOrders() {
        for (int i = -2; i < x.least(-1); i++) {
            add("least " + i, x.least(i));
        }
        add("orders", x.orders());
        for (int i = 0; i < 3; i++) {
            add("heard " + i, x.heard(i));
        }
    }

    private void tellHouses() {
        int houses = x.about(3);
        for (int i = 0; i < houses; i++) {
            for (int what = 0; what < 3; what++) {
                add("house " + i + " " + what, x.houseOf(i, what));
            }
            add("row to " + i, x.row(0, i, -1));
        }
        add("winter", x.winter());
    }

    private void tellTexts() {
        int rule = x.about(5);
        for (int i = 0; i < x.about(4); i++) {
            x.by(i);
            add("lift by text " + i, x.of(0, 2));
            add("fits by text " + i, x.of(0, 3));
        }
        x.by(rule);
        add("texts beyond", x.played(x.about(4)));
        add("text of the tape", x.text());
        add("its fault", x.fault(0));
    }

    private void tellSteps() {
        for (int left = x.undo(); left >= 0; left = x.undo()) {
            add("undo to", left);
            add("laid", x.about(1));
            add("spare", x.houseOf(0, 0));
            add("owes", x.houseOf(1, 1));
        }
        add("hushed", x.hush());
    }

    private void tellImage() {
        add("back", x.back());
        for (int i = 0; i <= 7; i++) {
            add("image " + i, x.about(i));
        }
    }
}
