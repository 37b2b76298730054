/** The edges of promises 22 to 26, what is seen: each method holds the sentence that it quotes. */
public final class SeenBoundsTest {
    private static final int NONE = Strips.NONE, UNKNOWN = Strips.UNKNOWN, OUTSIDE = Strips.OUTSIDE;
    private static final int STATE = Strips.STATE, FULL = Strips.FULL, MIN = Strips.MIN, MAX = Strips.MAX;

    public static void main(String[] args) {
        sixAtMost();
        asDeepAsThereAreLeaves();
        throughOrNot();
        seeHowMuch();
        seeUnknown();
        seeOutside();
        seeFull();
        forgetHowMuch();
        could();
        couldFitOrNot();
        couldState();
        tryOfLikeOnes();
        tryNone();
        tryState();
        shufflesSamePlace();
        shufflesNoMove();
        shufflesAsTheyWouldBe();
        seedWrapsAround();
        drawRoundedDown();
        drawRest();
        shufflesOutside();
        shufflesState();
        Due.finish();
    }

    private static void sixAtMost() {
        Due due = Doc.says("Terms", "SEEN (6 at most)");
        for (int leaves : new int[] {2, 7}) {
            FoldedStrip x = Strips.of(Strips.plain(leaves));
            for (int many = 1; many <= 6; many++) due.is("sight " + many, x.see(0, 1, true), many);
            due.is("sight 7", x.see(0, 1, true), FULL);
            due.is("how much is", x.count(7), 6);
            // The sixth counts, the seventh, which would leave nothing, does not.
            due.is("sight 7, of something else", x.see(0, 1, false), FULL);
            due.is("could()", x.could(), Strips.ORDERS_BY_LEAVES[leaves] / leaves);
        }
        FoldedStrip y = Strips.of("lll");
        for (int many = 1; many <= 5; many++) y.see(0, 3, true);
        y.see(0, 1, true);
        due.is("the sixth counts as the first does", y.could(), 2);
    }

    private static void asDeepAsThereAreLeaves() {
        Due due = Doc.says("Terms", "pushed in from the top through so many LEAVES (1 to as many as there are)");
        for (int leaves = 2; leaves <= 7; leaves++) {
            int many = Strips.ORDERS_BY_LEAVES[leaves];
            due.is("through one: the topmost", after(leaves, 0, 1, true), many / leaves);
            due.is("through one: any but the topmost", after(leaves, 0, 1, false), many - many / leaves);
            due.is("through all but one: any but the lowest", after(leaves, 0, leaves - 1, true), many - many / leaves);
            due.is("through all but one: the lowest", after(leaves, 0, leaves - 1, false), many / leaves);
            due.is("through all", after(leaves, leaves - 1, leaves, true), many);
            due.is("not through all", after(leaves, leaves - 1, leaves, false), 0);
        }
    }

    private static int after(int leaves, int leaf, int deep, boolean through) {
        FoldedStrip x = Strips.of(Strips.plain(leaves));
        x.see(leaf, deep, through);
        return x.could();
    }

    private static void throughOrNot() {
        Due due = Doc.says("Terms", "went through a told LEAF, or did not, the ORDER not being known");
        FoldedStrip x = Strips.of("ll");
        due.is("what is seen need not be as it lies", x.see(1, 1, true), 1);
        due.is("could()", x.could(), 1);
        due.is("it lies as it lay", x.at(0), 0);
        due.is("nor need it go together", x.see(1, 1, false), 2);
        due.is("could()", x.could(), 0);
    }

    private static void seeHowMuch() {
        Due due = Doc.says("Promise 22", "It is SEEN: how much is");
        FoldedStrip x = Strips.of("lllllll");
        due.is("the first", x.see(0, 1, true), 1);
        due.is("the same once more", x.see(0, 1, true), 2);
        due.is("the last leaf, through all", x.see(6, 7, true), 3);
        due.is("count(7)", x.count(7), 3);
    }

    private static void seeUnknown() {
        Due due = Doc.says("Promise 22", "UNKNOWN: leaf");
        for (int leaves : new int[] {2, 7}) {
            FoldedStrip x = Strips.of(Strips.plain(leaves));
            for (int leaf : new int[] {-1, leaves, leaves + 1, MIN, MAX}) {
                due.is("see(" + leaf + ", 1)", x.see(leaf, 1, true), UNKNOWN);
                due.is("see(" + leaf + ", 0)", x.see(leaf, 0, true), UNKNOWN);
            }
            due.is("how much is", x.count(7), 0);
            due.is("the last leaf", x.see(leaves - 1, 1, false), 1);
        }
        due.is("no strip", new FoldedStrip().see(0, 1, true), UNKNOWN);
        due.is("no strip, outside", new FoldedStrip().see(0, 0, true), UNKNOWN);
    }

    private static void seeOutside() {
        Due due = Doc.says("Promise 22", "OUTSIDE: deep (1 to as many as there are LEAVES)");
        for (int leaves = 2; leaves <= 7; leaves++) {
            FoldedStrip x = Strips.of(Strips.plain(leaves));
            for (int deep : new int[] {0, -1, leaves + 1, MIN, MAX}) due.is("deep " + deep + " of " + leaves, x.see(0, deep, true), OUTSIDE);
            due.is("how much is", x.count(7), 0);
            due.is("deep 1 of " + leaves, x.see(0, 1, true), 1);
            due.is("deep " + leaves, x.see(0, leaves, true), 2);
        }
    }

    private static void seeFull() {
        Due due = Doc.says("Promise 22", "FULL");
        FoldedStrip x = Strips.of("ll");
        for (int many = 1; many <= 6; many++) x.see(0, 1, true);
        due.is("full", x.see(1, 2, true), FULL);
        due.is("full, outside", x.see(1, 3, true), OUTSIDE);
        due.is("full, outside", x.see(1, 0, true), OUTSIDE);
        due.is("full, unknown", x.see(2, 2, true), UNKNOWN);
        due.is("full, unknown, outside", x.see(-1, 0, true), UNKNOWN);
        due.is("forget()", x.forget(), 6);
        due.is("not full", x.see(1, 2, true), 1);
    }

    private static void forgetHowMuch() {
        Due due = Doc.says("Promise 23", "Nothing is SEEN any more: how much was");
        due.is("no strip", new FoldedStrip().forget(), 0);
        for (int much = 0; much <= 6; much++) {
            FoldedStrip x = Strips.of("ll");
            for (int many = 0; many < much; many++) x.see(0, 1, true);
            due.is("forget()", x.forget(), much);
            due.is("forget(), again", x.forget(), 0);
            due.is("count(7)", x.count(7), 0);
            due.is("could()", x.could(), 2);
            due.is("see", x.see(1, 1, true), 1);
            due.is("of what was seen, nothing counts", x.could(), 1);
        }
    }

    private static void could() {
        Due due = Doc.says("Terms", "so that all that is SEEN is so");
        for (int leaves = 2; leaves <= 7; leaves++) {
            FoldedStrip x = Strips.of(Strips.plain(leaves));
            due.is("nothing is seen: all", x.could(), Strips.ORDERS_BY_LEAVES[leaves]);
            for (int leaf = 0; leaf < Math.min(6, leaves); leaf++) x.see(leaf, leaf + 1, true);
            due.is("one is left", x.could(), 1);
        }
        FoldedStrip y = Strips.of("lllllll");
        y.see(3, 4, true);
        y.see(3, 4, false);
        due.is("none is left", y.could(), 0);
    }

    private static void couldFitOrNot() {
        Due due = Doc.says("Terms", "how many of the ORDERS it can be (FIT or not)");
        due.is("none is fit", Strips.of("tt").could(), 2);
        due.is("none is fit", Strips.of("ttttttt").could(), 462);
    }

    private static void couldState() {
        Due due = Doc.says("Promise 24", "STATE: no STRIP");
        FoldedStrip x = new FoldedStrip();
        due.is("could()", x.could(), STATE);
        Strips.write(x, "ll");
        due.is("could()", x.could(), STATE);
        x.strip();
        due.is("could()", x.could(), 2);
    }

    private static void tryOfLikeOnes() {
        Due due = Doc.says("Terms", "told as 10 times how deep, and the LEAF: of like ones the least");
        due.is("of two, one is left by any at depth one", Strips.of("ll").trial(), 10);
        due.is("of six, four are left by any at depth one, or two", Strips.of("lll").trial(), 10);
        due.is("of sixteen, eight are left at depth two alone", Strips.of("llll").trial(), 20);
        FoldedStrip one = Strips.of("lllllll");
        for (int leaf = 0; leaf < 6; leaf++) one.see(leaf, leaf + 1, true);
        due.is("of one, one is left by any", one.trial(), 10);
        FoldedStrip two = Strips.of("lll");
        two.see(2, 2, false);
        due.is("012, 102: by 0, or 1, at depth one", two.trial(), 10);
        two.forget();
        two.see(0, 1, true);
        due.is("012, 021: by 1, or 2, at depth two", two.trial(), 21);
        // The last leaf but one, as deep as it can be that anything is told: all others are where they are.
        FoldedStrip seven = Strips.of("lllllll");
        for (int leaf = 0; leaf < 5; leaf++) seven.see(leaf, leaf + 1, true);
        due.is("0123456, 0123465 are left", seven.could(), 2);
        due.is("by 5, or 6, at depth six", seven.trial(), 65);
    }

    private static void tryNone() {
        Due due = Doc.says("Promise 25", "TRY; NONE");
        for (int leaves : new int[] {2, 7}) {
            FoldedStrip x = Strips.of(Strips.plain(leaves));
            x.see(0, leaves, false);
            due.is("none is left", x.could(), 0);
            due.is("of " + leaves, x.trial(), NONE);
            x.forget();
            due.is("of all again", x.trial() >= 10 ? 1 : 0, 1);
        }
    }

    private static void tryState() {
        Due due = Doc.says("Promise 25", "STATE: no STRIP");
        FoldedStrip x = new FoldedStrip();
        due.is("trial()", x.trial(), STATE);
        Strips.write(x, "ll");
        due.is("trial()", x.trial(), STATE);
    }

    /** One shuffle of a zigzag by a seed: how many, which order, the seed then. */
    private static void shuffled(Due due, int leaves, int seed, int done, String lie, int then) {
        FoldedStrip x = Strips.of(Strips.plain(leaves));
        due.is("by " + seed + ", how many", x.shuffles(1, seed, 0), done);
        due.is("by " + seed + ", which", x.shuffles(1, seed, 1), Strips.number(lie));
        due.is("by " + seed + ", the seed then", x.shuffles(1, seed, 2), then);
    }

    private static void shufflesSamePlace() {
        Due due = Doc.says("Terms", "if that is a MOVE (the same PLACE is none; nothing is done then)");
        // By 622893362 comes leaf 0, and place 0.
        shuffled(due, 7, 622893362, 0, "0123456", 458752);
        // The rests by three of the draws by 1, a leaf and a place each: 2 1, 0 1, 1 2, 0 0, 0 0.
        // 021, 201, then the same place, 021, then the same place.
        FoldedStrip x = Strips.of("lll");
        int[] done = {1, 2, 2, 3, 3};
        String[] lies = {"021", "201", "201", "021", "021"};
        for (int times = 1; times <= 5; times++) {
            due.is("how many of " + times, x.shuffles(times, 1, 0), done[times - 1]);
            due.is("which after " + times, x.shuffles(times, 1, 1), Strips.number(lies[times - 1]));
        }
    }

    private static void shufflesNoMove() {
        Due due = Doc.says("Terms", "so many times a LEAF by a DRAW of how many there are is taken out, and put in at a PLACE by a DRAW of how many there are");
        // By 18 come the draws 8177 and 842: leaf 1 to place 2 of seven, 0213456, where hinges 0 and 2 cross.
        shuffled(due, 7, 18, 0, "0123456", 55243232);
        // By 133 come the draws 11270 and 29270: leaf 0 to place 3 of seven, which is folded.
        shuffled(due, 7, 133, 1, "1230456", 1918258955);
        // By 4 come the draws 1817 and 24166: leaf 1 to place 2 of four, 0213, where they cross, too.
        shuffled(due, 4, 4, 0, "0123", 1583775778);
    }

    private static void shufflesAsTheyWouldBe() {
        Due due = Doc.says("Terms", "SHUFFLES by a SEED, as they would be");
        for (String text : new String[] {"cl", "clwlbtl"}) {
            FoldedStrip x = Strips.of(text);
            FoldedStrip twin = Strips.of(text);
            for (int what = 0; what <= 2; what++) {
                x.shuffles(99, 12345, what);
                x.shuffles(1, MAX, what);
            }
            due.row("nothing is done", Strips.fate(x), Strips.fate(twin));
        }
        FoldedStrip tarred = Strips.of("tt");
        due.is("fit or not", tarred.shuffles(1, 571119922, 0), 1);
    }

    private static void seedWrapsAround() {
        Due due = Doc.says("Terms", "1103515245 times it and 12345, its rest by 2 to the 31");
        shuffled(due, 7, 204577074, 1, "6012345", 0);
        shuffled(due, 7, 801440601, 1, "3012456", MAX);
        FoldedStrip x = Strips.of("ll");
        due.is("from 0, the least", x.shuffles(1, 0, 2), 1406932606);
        due.is("from the highest", x.shuffles(1, MAX, 2), 288979989);
        due.is("from 0 by way of the rest 0", x.shuffles(2, 204577074, 2), 1406932606);
        due.is("from the highest by way of it", x.shuffles(2, 801440601, 2), 288979989);
        for (int seed : new int[] {0, 1, 65535, 65536, MAX - 1, MAX}) {
            java.math.BigInteger next = java.math.BigInteger.valueOf(seed);
            for (int draws = 0; draws < 198; draws++) next = after(next);
            due.is("99 times from " + seed, x.shuffles(99, seed, 2), next.intValueExact());
        }
    }

    private static java.math.BigInteger after(java.math.BigInteger seed) {
        return seed.multiply(java.math.BigInteger.valueOf(1103515245)).add(java.math.BigInteger.valueOf(12345))
                .mod(java.math.BigInteger.ONE.shiftLeft(31));
    }

    // Each seed here is two draws ahead of the one from which the place comes; the leaf is told with it.
    private static void drawRoundedDown() {
        Due due = Doc.says("Terms", "then that by 65536 (rounded down)");
        shuffled(due, 2, 1167983449, 0, "01", 65535);
        shuffled(due, 2, 571119922, 1, "10", 65536);
        shuffled(due, 2, 1534526297, 0, "01", 131071);
        shuffled(due, 2, 937662770, 1, "10", 131072);
    }

    private static void drawRest() {
        Due due = Doc.says("Terms", "(rounded down), its rest");
        // Leaf 5 to place 6, the last draw ahead of the rest's end; then leaf 0 to place 0.
        shuffled(due, 7, 1219756889, 1, "0123465", 458751);
        shuffled(due, 7, 622893362, 0, "0123456", 458752);
        // The highest draw there is, 32767, is place 0 of seven.
        shuffled(due, 7, 801440601, 1, "3012456", MAX);
    }

    private static void shufflesOutside() {
        Due due = Doc.says("Promise 26", "OUTSIDE: times (1 to 99), seed (0 at least), what");
        FoldedStrip x = Strips.of("ll");
        for (int times : new int[] {0, -1, 100, MIN, MAX}) due.is("times " + times, x.shuffles(times, 0, 0), OUTSIDE);
        for (int seed : new int[] {-1, MIN}) due.is("seed " + seed, x.shuffles(1, seed, 0), OUTSIDE);
        for (int what : new int[] {-1, 3, MIN, MAX}) due.is("what " + what, x.shuffles(1, 0, what), OUTSIDE);
        due.is("all of them", x.shuffles(0, -1, 3), OUTSIDE);
        due.is("once, from 0", x.shuffles(1, 0, 0), 0);
        due.is("99 times, from the highest", x.shuffles(99, MAX, 0) > 0 ? 1 : 0, 1);
        due.is("for 2", x.shuffles(1, 0, 2), 1406932606);
        FoldedStrip none = new FoldedStrip();
        due.is("no strip, times", none.shuffles(0, 0, 0), OUTSIDE);
        due.is("no strip, times", none.shuffles(100, 0, 0), OUTSIDE);
        due.is("no strip, seed", none.shuffles(1, -1, 0), OUTSIDE);
        due.is("no strip, what", none.shuffles(1, 0, -1), OUTSIDE);
        due.is("no strip, what", none.shuffles(1, 0, 3), OUTSIDE);
    }

    private static void shufflesState() {
        Due due = Doc.says("Promise 26", "STATE: no STRIP");
        FoldedStrip none = new FoldedStrip();
        for (int what = 0; what <= 2; what++) {
            due.is("once, for " + what, none.shuffles(1, 0, what), STATE);
            due.is("99 times, for " + what, none.shuffles(99, MAX, what), STATE);
        }
    }
}
