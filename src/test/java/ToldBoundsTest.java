import java.math.BigInteger;
import java.util.ArrayList;
import java.util.List;

/** The edges of promises 27 to 30, what is told of all: each method holds the sentence that it quotes. */
public final class ToldBoundsTest {
    private static final int NONE = Strips.NONE, OUTSIDE = Strips.OUTSIDE, STATE = Strips.STATE;
    private static final int FULL = Strips.FULL, MIN = Strips.MIN, MAX = Strips.MAX;

    public static void main(String[] args) {
        imageKeeps();
        imageKeepsNothingElse();
        imageLatest();
        imageMoves();
        imageState();
        restoreGoesOn();
        restoreNoneKept();
        restoreAnotherStripSince();
        countNone();
        countLeast();
        countMost();
        countMoves();
        countOutside();
        digestOfNone();
        digestOfThePage();
        digestOfStrips();
        digestWraps();
        Due.finish();
    }

    private static void imageKeeps() {
        Due due = Doc.says("Terms", "An IMAGE keeps KINDS, how it lies, how many MOVES there were, SEEN");
        for (String text : new String[] {"cl", "clwlbtl"}) {
            for (int seen = 0; seen <= 6; seen += 3) {
                FoldedStrip x = kept(text, seen);
                spoil(x);
                x.restore();
                due.row(text + ", " + seen + " seen", Strips.asked(x), Strips.asked(kept(text, seen)));
            }
        }
    }

    private static FoldedStrip kept(String text, int seen) {
        FoldedStrip x = Strips.of(text);
        x.move(0, 1);
        x.change(1, 2);
        for (int many = 0; many < seen; many++) x.see(many % 2, 1 + many % 2, many % 2 == 0);
        x.image();
        return x;
    }

    private static void spoil(FoldedStrip x) {
        x.move(0, 0);
        x.turn();
        x.change(0, 4);
        x.change(1, 1);
        x.forget();
        for (int many = 0; many < 6; many++) x.see(0, 1, false);
        x.far(3);
    }

    private static void imageKeepsNothingElse() {
        Due due = Doc.says("Promise 27", "An IMAGE is kept");
        FoldedStrip x = Strips.of("ll");
        x.image();
        Strips.write(x, "lbwctlbwc");
        due.is("restore()", x.restore(), 0);
        due.is("letters of the page, a full one", x.count(8), 9);
        due.is("nothing is put behind them", x.letter('l'), FULL);
        x.image();
        x.blank();
        due.is("restore()", x.restore(), 0);
        due.is("letters of the page, an empty one", x.count(8), 0);
        due.is("strips read", x.count(9), 1);
    }

    private static void imageLatest() {
        Due due = Doc.says("Promise 27", "(one; the latest)");
        FoldedStrip x = Strips.of("llll");
        x.image();
        x.move(0, 3);
        due.is("the latest", x.image(), 1);
        x.move(0, 0);
        due.is("restore()", x.restore(), 1);
        due.row("it lies as then", Strips.lie(x), "1230");
        due.is("restore(), again", x.restore(), 1);
        due.row("there is no one ahead of it", Strips.lie(x), "1230");
    }

    private static void imageMoves() {
        Due due = Doc.says("Promise 27", "how many MOVES there were");
        FoldedStrip x = Strips.of("ll");
        for (int moves = 0; moves < 120; moves++) {
            due.is("image()", x.image(), moves);
            due.is("image(), again", x.image(), moves);
            due.is("a move", x.move(0, 1 - moves % 2), 0);
        }
    }

    private static void imageState() {
        Due due = Doc.says("Promise 27", "STATE: no STRIP");
        FoldedStrip x = new FoldedStrip();
        due.is("image()", x.image(), STATE);
        due.is("none was kept", x.restore(), STATE);
        Strips.write(x, "ll");
        due.is("image()", x.image(), STATE);
        x.strip();
        due.is("none was kept ahead of the strip", x.restore(), STATE);
        due.is("image()", x.image(), 0);
    }

    private static void restoreGoesOn() {
        Due due = Doc.says("Promise 28", "It goes on from the IMAGE: how many MOVES there were");
        FoldedStrip x = Strips.of("ll");
        x.image();
        due.is("at once", x.restore(), 0);
        x.move(0, 1);
        due.is("behind a move", x.restore(), 0);
        due.is("moves", x.count(6), 0);
        due.is("a move from there", x.move(0, 1), 0);
        due.is("moves", x.count(6), 1);
        FoldedStrip seven = kept("clwlbtl", 6);
        spoil(seven);
        due.is("of seven", seven.restore(), 1);
        due.is("it is full of what is seen, as then", seven.see(0, 1, true), FULL);
        FoldedStrip kinds = Strips.of("cl");
        kinds.image();
        kinds.change(0, 4);
        due.is("none is fit", kinds.orders(1), 0);
        kinds.restore();
        due.is("all are fit again", kinds.orders(1), 2);
        kinds.change(0, 4);
        due.is("what is done behind it does not touch the image", kinds.restore() + kinds.leaf(0, 0), 3);
    }

    private static void restoreNoneKept() {
        Due due = Doc.says("Promise 28", "STATE: none was kept");
        due.is("no strip", new FoldedStrip().restore(), STATE);
        for (String text : new String[] {"ll", "clwlbtl"}) {
            FoldedStrip x = Strips.of(text);
            x.move(0, 1);
            x.see(0, 1, true);
            String before = Strips.asked(x);
            due.is(text, x.restore(), STATE);
            due.row(text + " goes on as it was", Strips.asked(x), before);
        }
    }

    private static void restoreAnotherStripSince() {
        Due due = Doc.says("Promise 28", "or there is another STRIP since");
        for (String next : new String[] {"clwlbtl", "ll", "lllllll"}) {
            FoldedStrip x = kept("clwlbtl", 6);
            Strips.read(x, next);
            String before = Strips.state(x);
            due.is("behind " + next, x.restore(), STATE);
            due.row(next + " goes on as it was", Strips.state(x), before);
            due.is("image()", x.image(), 0);
            due.is("one was kept since", x.restore(), 0);
        }
        FoldedStrip x = kept("ll", 1);
        Strips.write(x, "cb");
        due.is("a page that is not read is none", x.restore(), 1);
        x.letter('x');
        due.is("nor is one that is refused", x.strip(), STATE);
        due.is("restore()", x.restore(), 1);
        x.blank();
        due.is("nor is an empty one", x.strip(), STATE);
        due.is("restore()", x.restore(), 1);
        x.change(0, 3);
        due.is("nor one of other kinds", x.restore(), 1);
    }

    private static void countNone() {
        Due due = Doc.says("Promise 29", "How many: 0 LEAVES, 1 how THICK all are, together, 2 how WIDE the widest HINGE is");
        FoldedStrip x = new FoldedStrip();
        due.row("no strip", Strips.counts(x), "0 0 0 0 0 0 0 0 0 0");
        Strips.write(x, "lbwctlbwc");
        due.row("no strip, a full page", Strips.counts(x), "0 0 0 0 0 0 0 0 9 0");
        x.strip();
        due.row("no strip, a page that was refused", Strips.counts(x), "0 0 0 0 0 0 0 0 9 0");
    }

    private static void countLeast() {
        Due due = Doc.says("Promise 29", "3 HINGES that are wider than 0, 4 LEAVES that lie as their KINDS want it");
        due.row("two leaves", Strips.counts(Strips.of("ll")), "2 2 0 0 2 2 0 0 0 1");
        due.row("two tarred ones", Strips.counts(Strips.of("tt")), "2 2 0 0 0 2 0 0 0 1");
        due.row("two covers", Strips.counts(Strips.of("cc")), "2 6 0 0 2 2 0 0 0 1");
        due.is("a tarred one, a cover", Strips.of("tc").count(4), 1);
        due.is("none of seven", Strips.of("ttttttt").count(4), 0);
        due.is("all of seven", Strips.of("clwblbc").count(4), 7);
    }

    private static void countMost() {
        Due due = Doc.says("Promise 29", "6 MOVES that were done, 7 what is SEEN, 8 letters of THE PAGE, 9 how often a STRIP was read");
        FoldedStrip x = Strips.of("ll");
        Strips.read(x, "bbbbbbb");
        x.lay(Strips.number("0234561"));
        for (int many = 0; many < 7; many++) x.see(0, 1, true);
        for (int many = 0; many < 10; many++) x.letter('x');
        due.row("all at their most", Strips.counts(x), "7 21 15 2 7 " + movesFrom("0234561") + " 0 6 9 2");
        due.is("a move back", x.move(1, 1), 0);
        due.row("zigzag", Strips.counts(x), "7 21 0 0 7 " + movesFrom("0123456") + " 1 6 9 2");
        FoldedStrip y = new FoldedStrip();
        for (int often = 1; often <= 100; often++) {
            Strips.read(y, "ll");
            due.is("how often a strip was read", y.count(9), often);
        }
    }

    private static void countMoves() {
        Due due = Doc.says("Promise 29", "5 MOVES that there are now (a LEAF and a PLACE each)");
        for (String lie : new String[] {"01", "10", "012", "0123", "0231", "0123456", "6543210", "0143265", "6143250"}) {
            due.is(lie, Strips.lying(Strips.plain(lie.length()), lie).count(5), movesFrom(lie));
        }
        due.is("of two: each to the place of the other one", Strips.of("tt").count(5), 2);
        due.is("of three: all but to their own places", Strips.of("lll").count(5), 6);
    }

    private static int movesFrom(String lie) {
        int moves = 0;
        for (int from = 0; from < lie.length(); from++) {
            for (int place = 0; place < lie.length(); place++) {
                StringBuilder after = new StringBuilder(lie).deleteCharAt(from).insert(place, lie.charAt(from));
                if (from != place && Strips.isFolded(after.toString())) moves++;
            }
        }
        return moves;
    }

    private static void countOutside() {
        Due due = Doc.says("Promise 29", "OUTSIDE");
        for (FoldedStrip x : new FoldedStrip[] {new FoldedStrip(), Strips.of("ll"), Strips.of("lllllll")}) {
            for (int what : new int[] {-1, 10, MIN, MAX}) due.is("count(" + what + ")", x.count(what), OUTSIDE);
            due.is("count(0)", x.count(0) >= 0 ? 1 : 0, 1);
            due.is("count(9)", x.count(9) >= 0 ? 1 : 0, 1);
        }
    }

    private static void digestOfNone() {
        Due due = Doc.says("Promise 30", "h is 1319, then for each of these numbers, in order, 31 times h, and it");
        // Nothing but the ten counts, all of them 0: 1319 times 31 to the tenth, which is 819628286980801.
        due.is("no strip", new FoldedStrip().digest(), 1319 * 819628286980801L);
    }

    private static void digestOfThePage() {
        Due due = Doc.says("Promise 30", "letters of THE PAGE; what count() tells for 0 to 9");
        for (String text : new String[] {"", "l", "x", "lx", "xl", "lbwctlbwc", "~~~~~~~~~"}) {
            FoldedStrip x = new FoldedStrip();
            Strips.write(x, text);
            List<Integer> told = new ArrayList<>();
            for (char letter : text.toCharArray()) told.add((int) letter);
            for (int count : new int[] {0, 0, 0, 0, 0, 0, 0, 0, text.length(), 0}) told.add(count);
            due.is("no strip, \"" + text + "\"", x.digest(), wrapped(told));
        }
        FoldedStrip x = new FoldedStrip();
        x.letter(1);
        FoldedStrip y = new FoldedStrip();
        y.letter(126);
        due.is("the least and the highest code", y.digest() - x.digest(), 125 * 819628286980801L);
    }

    private static void digestOfStrips() {
        Due due = Doc.says("Promise 30", "with a STRIP orders() for 0 to 3, trim() for 0 and 1, odds() of 0 and 1 for 0 and 1, could()");
        FoldedStrip two = Strips.of("tt");
        due.is("two, none is fit", two.digest(), wrapped(List.of(
                4, 1, 0, 0, 1, 0,
                4, 1, 1, 0, 1, 0,
                0, 0,
                2, 0, 0, 0, NONE, NONE, 0, 1, 2,
                2, 2, 0, 0, 0, 2, 0, 0, 0, 1)));
        FoldedStrip cover = Strips.of("cl");
        cover.see(1, 2, false);
        cover.letter(126);
        due.is("two, none could be", cover.digest(), wrapped(List.of(
                3, 3, 0, 1, 1, 1,
                0, 1, 1, 1, 1, 1,
                0, 0,
                2, 2, 0, 1, 0, 0, 1, 2, 0,
                126,
                2, 4, 0, 0, 2, 2, 0, 1, 1, 1)));
        FoldedStrip seven = Strips.of("lllllll");
        due.is("seven, all are fit", seven.digest(), wrapped(List.of(
                0, 1, 0, 1, 66, 66, 0, 1, 1, 1, 66, 66, 0, 1, 2, 1, 66, 66, 0, 1, 3, 1, 66, 66,
                0, 1, 4, 1, 66, 66, 0, 1, 5, 1, 66, 66, 0, 1, 6, 1, 66, 66,
                0, 0, 1, 0, 0, 0, 1, 0, 0, 0, 1, 0,
                462, 462, 0, 1, 0, 0, 1, 2, 462,
                7, 7, 0, 0, 7, movesFrom("0123456"), 0, 0, 0, 1)));
    }

    private static void digestWraps() {
        Due due = Doc.says("Promise 30", "(as longs, wrapping)");
        for (String text : new String[] {"ll", "tt", "cbw", "clwlbtl", "ttttttt"}) {
            FoldedStrip x = Strips.of(text);
            for (int round = 0; round < 3; round++) {
                x.move(0, 1 + round % 2);
                x.see(0, 1, round == 0);
                x.letter(1 + 60 * round);
                due.is(text, x.digest(), wrapped(told(x, round)));
            }
        }
    }

    /** What the calls tell, for a page of 1, 61 and 121, as far as it goes. */
    private static List<Integer> told(FoldedStrip x, int round) {
        List<Integer> told = new ArrayList<>();
        int leaves = x.count(0);
        for (int leaf = 0; leaf < leaves; leaf++) {
            for (int what = 0; what <= 3; what++) told.add(x.leaf(leaf, what));
            for (int what = 0; what <= 1; what++) told.add(x.tops(leaf, what));
        }
        for (int hinge = 0; hinge < leaves - 1; hinge++) {
            for (int what = 0; what <= 1; what++) told.add(x.hinge(hinge, what));
        }
        for (int what = 0; what <= 3; what++) told.add(x.orders(what));
        for (int what = 0; what <= 1; what++) told.add(x.trim(what));
        for (int what = 0; what <= 1; what++) told.add(x.odds(0, 1, what));
        told.add(x.could());
        for (int letter = 0; letter <= round; letter++) told.add(1 + 60 * letter);
        for (int what = 0; what <= 9; what++) told.add(x.count(what));
        return told;
    }

    /** The whole sum, of which a long keeps the lowest 64 bits. */
    private static long wrapped(List<Integer> told) {
        BigInteger sum = BigInteger.valueOf(1319);
        for (int number : told) sum = sum.multiply(BigInteger.valueOf(31)).add(BigInteger.valueOf(number));
        return sum.longValue();
    }
}
