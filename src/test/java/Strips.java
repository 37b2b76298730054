import java.util.ArrayList;
import java.util.List;

/** Strips made for a test, and what can be told of them. */
final class Strips {
    static final int NONE = -1, UNKNOWN = -101, OUTSIDE = -102, STATE = -103, FULL = -104;
    static final int MIN = Integer.MIN_VALUE, MAX = Integer.MAX_VALUE;
    static final int[] ORDERS_BY_LEAVES = {0, 0, 2, 6, 16, 50, 144, 462};

    private Strips() {
    }

    static void write(FoldedStrip x, String text) {
        for (char sign : text.toCharArray()) x.letter(sign);
    }

    static FoldedStrip of(String text) {
        FoldedStrip x = new FoldedStrip();
        read(x, text);
        return x;
    }

    static void read(FoldedStrip x, String text) {
        write(x, text);
        if (x.strip() != text.length()) throw new IllegalStateException(text);
    }

    static FoldedStrip lying(String text, String lie) {
        FoldedStrip x = of(text);
        x.lay(number(lie));
        return x;
    }

    /** The number of an order, by the list of all permutations in which no hinges cross. */
    static int number(String lie) {
        int number = StripModel.foldedOrders(lie.length()).indexOf(leavesOf(lie));
        if (number < 0) throw new IllegalStateException(lie + " cannot be folded");
        return number;
    }

    static boolean isFolded(String lie) {
        return StripModel.isFolded(leavesOf(lie));
    }

    private static List<Integer> leavesOf(String lie) {
        List<Integer> leaves = new ArrayList<>();
        for (char sign : lie.toCharArray()) leaves.add(sign - '0');
        return leaves;
    }

    static String zigzag(int leaves) {
        return "0123456".substring(0, leaves);
    }

    static String plain(int leaves) {
        return "lllllll".substring(0, leaves);
    }

    static String lie(FoldedStrip x) {
        StringBuilder text = new StringBuilder();
        int leaves = x.count(0);
        for (int place = 0; place < leaves; place++) text.append(x.at(place));
        return text.toString();
    }

    static String counts(FoldedStrip x) {
        StringBuilder text = new StringBuilder();
        for (int what = 0; what <= 9; what++) text.append(what == 0 ? "" : " ").append(x.count(what));
        return text.toString();
    }

    /** What shows that nothing was changed, in few calls. */
    static String state(FoldedStrip x) {
        StringBuilder text = new StringBuilder();
        text.append(lie(x)).append(' ').append(counts(x)).append(' ').append(x.digest());
        text.append(' ').append(x.could()).append(' ').append(x.trial()).append(' ').append(x.fault());
        int leaves = x.count(0);
        for (int leaf = 0; leaf < leaves; leaf++) text.append(' ').append(x.leaf(leaf, 0));
        return text.toString();
    }

    /** All that the calls tell that only ask; some 270 of them for seven leaves. */
    static String asked(FoldedStrip x) {
        StringBuilder text = new StringBuilder(state(x));
        int leaves = x.count(0);
        for (int leaf = 0; leaf < leaves; leaf++) {
            for (int what = 0; what <= 3; what++) text.append(' ').append(x.leaf(leaf, what));
            for (int kind = 0; kind <= 4; kind++) text.append(' ').append(x.as(leaf, kind));
            for (int place = 0; place < leaves; place++) text.append(' ').append(x.may(leaf, place));
            for (int what = 0; what <= 1; what++) text.append(' ').append(x.tops(leaf, what));
        }
        for (int hinge = 0; hinge < leaves - 1; hinge++) {
            for (int what = 0; what <= 1; what++) text.append(' ').append(x.hinge(hinge, what));
        }
        for (int what = 0; what <= 3; what++) text.append(' ').append(x.orders(what)).append(' ').append(x.far(what));
        for (int what = 0; what <= 1; what++) text.append(' ').append(x.trim(what)).append(' ').append(x.odds(0, 1, what));
        for (int order = 0; order < x.orders(0); order += 50) {
            text.append(' ').append(x.near(order)).append(' ').append(x.order(order, 0)).append(' ').append(x.order(order, 1));
        }
        for (int what = 0; what <= 2; what++) text.append(' ').append(x.shuffles(99, 7, what));
        return text.toString();
    }

    /**
     * What becomes of it: all that is told, also of what no call tells now, but later ones: the image,
     * what is seen, the page. It is changed by this; so two that were made alike are held against each other.
     */
    static String fate(FoldedStrip x) {
        StringBuilder text = new StringBuilder(asked(x));
        text.append("; sees ").append(x.see(0, 1, true)).append(' ').append(state(x));
        text.append("; goes on from ").append(x.restore()).append(' ').append(state(x));
        text.append("; forgets ").append(x.forget()).append(' ').append(state(x));
        text.append("; has a letter more ").append(x.letter('l')).append(' ').append(x.digest());
        text.append("; is read ").append(x.strip()).append(' ').append(state(x));
        return text.toString();
    }
}
