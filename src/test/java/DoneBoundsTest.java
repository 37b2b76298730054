/** The edges of promises 11 to 14, what is done: each method holds the sentence that it quotes. */
public final class DoneBoundsTest {
    private static final int UNKNOWN = Strips.UNKNOWN, OUTSIDE = Strips.OUTSIDE, STATE = Strips.STATE;
    private static final int FULL = Strips.FULL, MIN = Strips.MIN, MAX = Strips.MAX;

    public static void main(String[] args) {
        moveWider();
        moveUnknown();
        moveState();
        moveFull();
        moveFullIsNotReached();
        turnOnTop();
        turnState();
        layWas();
        layUnknown();
        changeWas();
        changeUnknown();
        changeOutside();
        Due.finish();
    }

    private static void moveWider() {
        Due due = Doc.says("Promise 11", "how many HINGES are wider than 0 then");
        due.is("of two, never", Strips.of("cc").move(0, 1), 0);
        FoldedStrip x = Strips.of("lllllll");
        due.is("one", x.move(0, 6), 1);
        due.is("none again", x.move(0, 0), 0);
        for (String lie : new String[] {"0234561", "0143265", "2506143"}) {
            for (int leaf = 0; leaf < 7; leaf++) {
                for (int place = 0; place < 7; place++) {
                    String after = moved(lie, leaf, place);
                    if (lie.charAt(place) - '0' == leaf || !Strips.isFolded(after)) continue;
                    FoldedStrip y = Strips.lying("lllllll", lie);
                    due.is(lie + " to " + after, y.move(leaf, place), apart(after));
                    due.row(lie + " to " + after, Strips.lie(y), after);
                }
            }
        }
    }

    private static String moved(String lie, int leaf, int place) {
        StringBuilder after = new StringBuilder(lie);
        after.deleteCharAt(lie.indexOf('0' + leaf));
        return after.insert(place, leaf).toString();
    }

    private static int apart(String lie) {
        int apart = 0;
        for (char leaf = '0'; leaf < '0' + lie.length() - 1; leaf++) {
            if (Math.abs(lie.indexOf(leaf) - lie.indexOf(leaf + 1)) > 1) apart++;
        }
        return apart;
    }

    private static void moveUnknown() {
        Due due = Doc.says("Promise 11", "UNKNOWN: leaf, place");
        for (int leaves : new int[] {2, 7}) {
            FoldedStrip x = Strips.of(Strips.plain(leaves));
            for (int no : new int[] {-1, leaves, leaves + 1, MIN, MAX}) {
                due.is("move(" + no + ", 0)", x.move(no, 0), UNKNOWN);
                due.is("move(0, " + no + ")", x.move(0, no), UNKNOWN);
                due.is("move(" + no + ", " + no + ")", x.move(no, no), UNKNOWN);
            }
            due.is("moves", x.count(6), 0);
            due.is("the last to the first place", x.move(leaves - 1, 0) >= 0 ? 1 : 0, 1);
            due.is("the same back to the last place", x.move(leaves - 1, leaves - 1), 0);
            due.is("moves", x.count(6), 2);
        }
        due.is("no strip", new FoldedStrip().move(0, 1), UNKNOWN);
    }

    private static void moveState() {
        Due due = Doc.says("Promise 11", "STATE: it is none");
        for (String lie : new String[] {"01", "10", "0123456", "0143265"}) {
            for (int place = 0; place < lie.length(); place++) {
                FoldedStrip x = Strips.lying(Strips.plain(lie.length()), lie);
                due.is(lie + ", at its own place " + place, x.move(lie.charAt(place) - '0', place), STATE);
                due.is("moves", x.count(6), 0);
            }
        }
        FoldedStrip x = Strips.of("llll");
        due.is("not folded: 0213", x.move(1, 2), STATE);
        due.is("not folded: 0213, by the other leaf", x.move(2, 1), STATE);
        due.row("it lies as it lay", Strips.lie(x), "0123");
        due.is("moves", x.count(6), 0);
    }

    // Behind call 512 the answers are free, so this holds the guard alone, not what the document promises.
    private static void moveFull() {
        Due due = Doc.says("Promise 11", "FULL: 999 were");
        FoldedStrip x = Strips.of("ll");
        for (int many = 1; many <= 999; many++) due.is("move " + many, x.move(0, many % 2), 0);
        due.is("moves", x.count(6), 999);
        due.is("move 1000", x.move(0, 0), FULL);
        due.is("it is none, and full", x.move(0, 1), STATE);
        due.is("unknown, and full", x.move(2, 0), UNKNOWN);
        due.is("unknown, and full", x.move(0, 2), UNKNOWN);
        due.is("moves", x.count(6), 999);
        due.is("it lies as it lay", x.at(0), 1);
        due.is("image()", x.image(), 999);
        due.is("turn() is no move", x.turn(), 0);
        due.is("lay() is no move", x.lay(1), 0);
        due.is("restore()", x.restore(), 999);
        Strips.read(x, "ll");
        due.is("of another strip", x.move(0, 1), 0);
    }

    private static void moveFullIsNotReached() {
        Due due = Doc.says("What it is", "at most 512 calls");
        FoldedStrip x = Strips.of("ll");
        for (int call = 4; call <= 512; call++) due.is("move by call " + call, x.move(0, 1 - call % 2), 0);
    }

    private static void turnOnTop() {
        Due due = Doc.says("Promise 12", "which LEAF is on top then");
        for (int leaves = 2; leaves <= 7; leaves++) {
            FoldedStrip x = Strips.of(Strips.plain(leaves));
            due.is("of " + leaves, x.turn(), leaves - 1);
            due.is("of " + leaves + ", turned back", x.turn(), 0);
            due.row("of " + leaves + ", turned back", Strips.lie(x), Strips.zigzag(leaves));
            due.is("moves", x.count(6), 0);
        }
        due.is("of 0234561", Strips.lying("lllllll", "0234561").turn(), 1);
    }

    private static void turnState() {
        Due due = Doc.says("Promise 12", "STATE: no STRIP");
        FoldedStrip x = new FoldedStrip();
        due.is("of none", x.turn(), STATE);
        Strips.write(x, "ll");
        due.is("of a page that is not read", x.turn(), STATE);
        x.strip();
        due.is("of one", x.turn(), 1);
    }

    private static void layWas() {
        Due due = Doc.says("Promise 13", "which one it lay in");
        for (int leaves = 2; leaves <= 7; leaves++) {
            int last = Strips.ORDERS_BY_LEAVES[leaves] - 1;
            FoldedStrip x = Strips.of(Strips.plain(leaves));
            due.is("the first of " + leaves + " in the first", x.lay(0), 0);
            due.is("the first of " + leaves + " in the last", x.lay(last), 0);
            due.is("the last of " + leaves + " in the last", x.lay(last), last);
            due.is("the last of " + leaves + " in the first", x.lay(0), last);
            due.is("moves", x.count(6), 0);
        }
    }

    private static void layUnknown() {
        Due due = Doc.says("Promise 13", "UNKNOWN: order");
        for (int leaves = 2; leaves <= 7; leaves++) {
            int many = Strips.ORDERS_BY_LEAVES[leaves];
            FoldedStrip x = Strips.of(Strips.plain(leaves));
            x.turn();
            for (int order : new int[] {-1, many, many + 1, MIN, MAX}) due.is("lay(" + order + ") of " + leaves, x.lay(order), UNKNOWN);
            due.is("it lies in the last", x.orders(2), many - 1);
        }
        due.is("no strip", new FoldedStrip().lay(0), UNKNOWN);
    }

    private static void changeWas() {
        Due due = Doc.says("Promise 14", "A LEAF is of another KIND: of which it was");
        for (int leaves : new int[] {2, 7}) {
            for (int leaf : new int[] {0, leaves - 1}) {
                FoldedStrip x = Strips.of(Strips.plain(leaves));
                int before = 0;
                for (int kind : new int[] {4, 3, 2, 1, 0, 0, 4, 4}) {
                    due.is("change(" + leaf + ", " + kind + ")", x.change(leaf, kind), before);
                    due.is("its kind", x.leaf(leaf, 0), kind);
                    due.is("the kind of another one", x.leaf(leaf == 0 ? 1 : 0, 0), 0);
                    before = kind;
                }
                due.row("it lies as it lay", Strips.lie(x), Strips.zigzag(leaves));
            }
        }
        FoldedStrip x = Strips.of("ll");
        x.change(0, 4);
        due.is("none is fit then", x.orders(1), 0);
        x.change(0, 3);
        due.is("all are fit then", x.orders(1), 2);
    }

    private static void changeUnknown() {
        Due due = Doc.says("Promise 14", "UNKNOWN");
        for (int leaves : new int[] {2, 7}) {
            FoldedStrip x = Strips.of(Strips.plain(leaves));
            for (int leaf : new int[] {-1, leaves, leaves + 1, MIN, MAX}) {
                due.is("change(" + leaf + ", 0)", x.change(leaf, 0), UNKNOWN);
                due.is("change(" + leaf + ", 5)", x.change(leaf, 5), UNKNOWN);
            }
        }
        due.is("no strip", new FoldedStrip().change(0, 0), UNKNOWN);
        due.is("no strip, no kind", new FoldedStrip().change(0, -1), UNKNOWN);
    }

    private static void changeOutside() {
        Due due = Doc.says("Promise 14", "OUTSIDE: kind (0 to 4)");
        FoldedStrip x = Strips.of("wb");
        for (int kind : new int[] {-1, 5, MIN, MAX}) {
            due.is("change(0, " + kind + ")", x.change(0, kind), OUTSIDE);
            due.is("change(1, " + kind + ")", x.change(1, kind), OUTSIDE);
        }
        due.is("kinds", 10 * x.leaf(0, 0) + x.leaf(1, 0), 21);
        due.is("change(0, 0)", x.change(0, 0), 2);
        due.is("change(1, 4)", x.change(1, 4), 1);
    }
}
