import java.io.IOException;
import java.nio.file.Files;
import java.nio.file.Path;

/**
 * Each sentence of the document that names a boundary case, with a test of its own: at the last
 * value that is let and at the first that is not. Run from the project's directory.
 */
public final class Edges {
    static final int LOW = Integer.MIN_VALUE;
    static final int HIGH = Integer.MAX_VALUE;

    private static final Check CHECK = new Check();
    private static final Path DOCUMENT = Path.of("../shared/DOC.md");
    private static Doc doc;
    private static String heading = "";
    private static String sentence = "";

    public static void main(String[] args) throws IOException {
        doc = Files.isReadable(DOCUMENT) ? new Doc(DOCUMENT) : null;
        in("Terms");
        aside();
        EdgesOfStones.all();
        EdgesOfTokens.all();
        EdgesOfLaws.all();
        EdgesOfFaults.all();
        EdgesOfSteps.all();
        EdgesOfOrders.all();
        EdgesOfHouses.all();
        EdgesOfTelling.all();
        EdgesOfAnswers.all();
        everySentenceHasATest();
        CHECK.endWith("edges");
    }

    /** What stands in the Terms and says nothing by itself. */
    private static void aside() {
        says("==== II.");
        says("==== III.");
        says("==== IV.");
        says("The constants:");
        says("None.");
        due("NONE", WalledIn.NONE, -1);
    }

    private static void everySentenceHasATest() {
        if (doc == null) {
            System.out.println("the document is not here: its sentences are not compared");
            return;
        }
        for (String words : doc.unquoted()) {
            CHECK.due("a test for: " + words, false, true);
        }
    }

    /** The tests that follow are of what stands under that heading. */
    static void in(String newHeading) {
        heading = newHeading;
    }

    /** The answers that follow are due by these words. */
    static void says(String words) {
        sentence = words;
        if (doc != null) {
            CHECK.due("the document says under " + heading + ": " + words,
                doc.quote(heading, words), true);
        }
    }

    static void due(String call, long got, long want) {
        CHECK.due("[" + heading + ": " + sentence + "] " + call, got, want);
    }

    static void due(String call, boolean got, boolean want) {
        due(call, got ? 1 : 0, want ? 1 : 0);
    }

    static void same(String call, String got, String want) {
        due(call + ": all is as it was", got.equals(want), true);
        if (!got.equals(want)) {
            System.out.println("  it was " + want + "\n  it is  " + got);
        }
    }

    /** n STONES without BEARERS: weight 1, height and vein their number. */
    static WalledIn stones(int n) {
        WalledIn x = new WalledIn();
        for (int i = 0; i < n; i++) {
            x.stone(1, i, i, 0, 0);
        }
        return x;
    }

    static WalledIn houses(int... spare) {
        WalledIn x = new WalledIn();
        for (int each : spare) {
            x.house(each);
        }
        return x;
    }

    static void touchAll(WalledIn x, int houses) {
        for (int i = 0; i < houses; i++) {
            for (int j = 0; j < i; j++) {
                x.touch(i, j, true);
            }
        }
    }

    /** Reads a text, which must have no FAULT, and lets it rule. */
    static WalledIn rule(WalledIn x, String text) {
        int number = Check.read(x, text);
        due("text() of " + text, number >= 0, true);
        due("by() of " + text, x.by(number), true);
        return x;
    }

    /** One STONE of weight 7, height 3 and vein 50, ruled by a text. */
    static WalledIn ruled(String text) {
        WalledIn x = new WalledIn();
        x.stone(7, 3, 50, 0, 0);
        return rule(x, text);
    }

    static void lift(String sum, int want) {
        due("lift " + sum, ruled("lift " + sum + ";").of(0, 2), want);
    }

    static void may(String either, boolean want) {
        due("may " + either, ruled("may " + either + ";").of(0, 1), want ? 1 : 0);
    }

    static void right(String text) {
        WalledIn x = new WalledIn();
        due("text() of '" + text + "'", Check.read(x, text), 0);
        due("fault(0) of '" + text + "'", x.fault(0), 0);
        due("fault(1) of '" + text + "'", x.fault(1), -1);
    }

    static void fault(String text, int what, int place) {
        WalledIn x = new WalledIn();
        due("text() of '" + text + "'", Check.read(x, text), -1);
        due("fault(0) of '" + text + "'", x.fault(0), what);
        due("fault(1) of '" + text + "'", x.fault(1), place);
    }

    static void order(WalledIn x, int lift, int... order) {
        due("least(-1)", x.least(-1), order.length);
        due("least(-2)", x.least(-2), lift);
        for (int i = 0; i < order.length; i++) {
            due("least(" + i + ")", x.least(i), order[i]);
        }
        due("least(" + order.length + ")", x.least(order.length), -3);
    }

    static void heard(WalledIn x, long many, int each, int some) {
        due("heard(0)", x.heard(0), many);
        due("heard(1)", x.heard(1), each);
        due("heard(2)", x.heard(2), some);
    }
}
