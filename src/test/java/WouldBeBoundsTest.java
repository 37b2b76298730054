/** The edges of promises 15 to 21, what would be: each method holds the sentence that it quotes. */
public final class WouldBeBoundsTest {
    private static final int NONE = Strips.NONE, UNKNOWN = Strips.UNKNOWN, OUTSIDE = Strips.OUTSIDE;
    private static final int STATE = Strips.STATE, MIN = Strips.MIN, MAX = Strips.MAX;
    // Of seven leaves 35 orders, 0143265 and its like, can be come to from one another alone.
    private static final String APART = "0143265";

    public static void main(String[] args) {
        ordersHowMany();
        ordersOutside();
        ordersState();
        orderOf();
        orderNone();
        orderUnknown();
        orderOutside();
        topsHowMany();
        topsUnknown();
        topsOutside();
        near();
        nearNone();
        nearUnknown();
        farthest();
        farthestOfLikeOnes();
        home();
        homeNone();
        farOutside();
        farState();
        trimLeast();
        trimNone();
        trimOutside();
        trimState();
        oddsInLowestTerms();
        oddsIfNoneIsFit();
        oddsUnknown();
        oddsOutside();
        Due.finish();
    }

    private static void ordersHowMany() {
        Due due = Doc.says("Promise 15", "what = 0 ORDERS, 1 FITS, 2 which ORDER it lies in, 3 whether that is FIT (1, 0)");
        for (int leaves = 2; leaves <= 7; leaves++) {
            int many = Strips.ORDERS_BY_LEAVES[leaves];
            FoldedStrip x = Strips.of(Strips.plain(leaves));
            due.is("orders of " + leaves, x.orders(0), many);
            due.is("all are fit", x.orders(1), many);
            due.is("in the first", x.orders(2), 0);
            x.turn();
            due.is("in the last", x.orders(2), many - 1);
            due.is("it is fit", x.orders(3), 1);
            x.change(0, 4);
            due.is("it is not fit", x.orders(3), 0);
            x.change(1, 4);
            x.change(leaves - 1, 4);
            due.is("orders, whatever the kinds", x.orders(0), many);
        }
        due.is("none is fit of two", Strips.of("tl").orders(1), 0);
        due.is("none is fit of seven", Strips.of("wwwwwww").orders(1), 0);
    }

    private static void ordersOutside() {
        Due due = Doc.says("Promise 15", "OUTSIDE");
        FoldedStrip x = Strips.of("ll");
        for (int what : new int[] {-1, 4, MIN, MAX}) {
            due.is("orders(" + what + ")", x.orders(what), OUTSIDE);
            due.is("no strip, orders(" + what + ")", new FoldedStrip().orders(what), OUTSIDE);
        }
        due.is("orders(0)", x.orders(0), 2);
        due.is("orders(3)", x.orders(3), 1);
    }

    private static void ordersState() {
        Due due = Doc.says("Promise 15", "STATE: no STRIP");
        for (int what = 0; what <= 3; what++) due.is("orders(" + what + ")", new FoldedStrip().orders(what), STATE);
    }

    private static void orderOf() {
        Due due = Doc.says("Promise 16", "what = 0 whether it is FIT (1, 0), 1 how WIDE the widest HINGE is in it");
        FoldedStrip two = Strips.of("cb");
        for (int order = 0; order <= 1; order++) {
            due.is("fit", two.order(order, 0), 1);
            due.is("widest of two", two.order(order, 1), 0);
        }
        due.is("not fit", Strips.of("ct").order(1, 0), 0);
        FoldedStrip seven = Strips.of("bbbbbbb");
        due.is("widest in the first", seven.order(0, 1), 0);
        due.is("widest in the last", seven.order(461, 1), 0);
        due.is("widest of all", seven.order(Strips.number("0234561"), 1), 15);
        due.is("it lies as it lay", seven.orders(2), 0);
    }

    private static void orderNone() {
        Due due = Doc.says("Promise 16", "10 to 16 which LEAF is at PLACE 0 to 6 (NONE: there are not so many)");
        for (int leaves = 2; leaves <= 7; leaves++) {
            FoldedStrip x = Strips.of(Strips.plain(leaves));
            int last = Strips.ORDERS_BY_LEAVES[leaves] - 1;
            for (int place = 0; place <= 6; place++) {
                due.is("place " + place + " in the first of " + leaves, x.order(0, 10 + place), place < leaves ? place : NONE);
                due.is("place " + place + " in the last of " + leaves, x.order(last, 10 + place), place < leaves ? leaves - 1 - place : NONE);
            }
        }
    }

    private static void orderUnknown() {
        Due due = Doc.says("Promise 16", "UNKNOWN");
        for (int leaves = 2; leaves <= 7; leaves++) {
            FoldedStrip x = Strips.of(Strips.plain(leaves));
            int many = Strips.ORDERS_BY_LEAVES[leaves];
            for (int order : new int[] {-1, many, many + 1, MIN, MAX}) {
                for (int what : new int[] {0, 1, 10, 16}) due.is("order(" + order + ", " + what + ")", x.order(order, what), UNKNOWN);
            }
        }
        due.is("no strip", new FoldedStrip().order(0, 0), UNKNOWN);
    }

    private static void orderOutside() {
        Due due = Doc.says("Promise 16", "UNKNOWN; OUTSIDE");
        FoldedStrip x = Strips.of("lll");
        for (int what : new int[] {-1, 2, 9, 17, MIN, MAX}) {
            due.is("order(5, " + what + ")", x.order(5, what), OUTSIDE);
            due.is("order(6, " + what + ")", x.order(6, what), UNKNOWN);
            due.is("order(-1, " + what + ")", x.order(-1, what), UNKNOWN);
            due.is("no strip, order(0, " + what + ")", new FoldedStrip().order(0, what), UNKNOWN);
        }
        due.is("order(5, 1)", x.order(5, 1), 0);
        due.is("order(5, 10)", x.order(5, 10), 2);
        due.is("order(5, 16)", x.order(5, 16), NONE);
    }

    private static void topsHowMany() {
        Due due = Doc.says("Promise 17", "what = 0 of all, 1 of those that are FIT");
        for (int leaves = 2; leaves <= 7; leaves++) {
            FoldedStrip x = Strips.of(Strips.plain(leaves));
            int all = 0;
            for (int leaf = 0; leaf < leaves; leaf++) all += x.tops(leaf, 0);
            due.is("of all, together", all, Strips.ORDERS_BY_LEAVES[leaves]);
            due.is("the first of " + leaves, x.tops(0, 0), Strips.ORDERS_BY_LEAVES[leaves] / leaves);
            due.is("the last of " + leaves, x.tops(leaves - 1, 0), Strips.ORDERS_BY_LEAVES[leaves] / leaves);
        }
        FoldedStrip x = Strips.of("tcl");
        due.is("a tarred one, of all", x.tops(0, 0), 2);
        due.is("a tarred one, of those that are fit", x.tops(0, 1), 0);
        due.is("a cover, of those that are fit: 102", x.tops(1, 1), 1);
        due.is("a leaf, of those that are fit: 201", x.tops(2, 1), 1);
        FoldedStrip none = Strips.of("ww");
        due.is("none is fit", none.tops(0, 1) + none.tops(1, 1), 0);
    }

    private static void topsUnknown() {
        Due due = Doc.says("Promise 17", "UNKNOWN");
        for (int leaves : new int[] {2, 7}) {
            FoldedStrip x = Strips.of(Strips.plain(leaves));
            for (int leaf : new int[] {-1, leaves, leaves + 1, MIN, MAX}) {
                due.is("tops(" + leaf + ", 0)", x.tops(leaf, 0), UNKNOWN);
                due.is("tops(" + leaf + ", 1)", x.tops(leaf, 1), UNKNOWN);
            }
        }
        due.is("no strip", new FoldedStrip().tops(0, 0), UNKNOWN);
    }

    private static void topsOutside() {
        Due due = Doc.says("Promise 17", "UNKNOWN; OUTSIDE");
        FoldedStrip x = Strips.of("ll");
        for (int what : new int[] {-1, 2, MIN, MAX}) {
            due.is("tops(1, " + what + ")", x.tops(1, what), OUTSIDE);
            due.is("tops(2, " + what + ")", x.tops(2, what), UNKNOWN);
            due.is("no strip, tops(0, " + what + ")", new FoldedStrip().tops(0, what), UNKNOWN);
        }
        due.is("tops(1, 0)", x.tops(1, 0), 1);
        due.is("tops(1, 1)", x.tops(1, 1), 1);
    }

    private static void near() {
        Due due = Doc.says("Terms", "NEAR: by how few MOVES one comes from how it lies to ORDER so-and-so");
        for (int leaves = 2; leaves <= 7; leaves++) {
            FoldedStrip x = Strips.of(Strips.plain(leaves));
            due.is("to itself, of " + leaves, x.near(0), 0);
            due.is("to the next one, of " + leaves, x.near(1), 1);
            x.turn();
            due.is("to itself, turned", x.near(Strips.ORDERS_BY_LEAVES[leaves] - 1), 0);
            x.lay(1);
            due.is("to itself, laid otherwise", x.near(1), 0);
            due.is("to the one before", x.near(0), 1);
        }
        FoldedStrip last = Strips.lying("lllllll", "6543210");
        for (int place = 0; place < 7; place++) {
            for (int to = 0; to < 7; to++) {
                StringBuilder lie = new StringBuilder("6543210").deleteCharAt(place).insert(to, 6 - place);
                if (to == place || !Strips.isFolded(lie.toString())) continue;
                due.is("by one move from the last of seven, to " + lie, last.near(Strips.number(lie.toString())), 1);
            }
        }
        FoldedStrip moved = Strips.of("ll");
        moved.move(0, 1);
        due.is("behind a move", moved.near(0), 1);
        due.is("no moves were done by it", moved.count(6), 1);
        FoldedStrip kinds = Strips.of("tct");
        due.is("fit or not", kinds.near(5), 2);
    }

    private static void nearNone() {
        Due due = Doc.says("Promise 18", "NEAR; NONE");
        FoldedStrip x = Strips.of("lllllll");
        due.is("it cannot be come to", x.near(Strips.number(APART)), NONE);
        x.lay(Strips.number(APART));
        due.is("nor back", x.near(0), NONE);
        due.is("to itself", x.near(Strips.number(APART)), 0);
        due.is("to its like", x.near(Strips.number("1043265")), 1);
        for (int leaves = 2; leaves <= 6; leaves++) {
            FoldedStrip y = Strips.of(Strips.plain(leaves));
            int nowhere = 0;
            for (int order = 0; order < Strips.ORDERS_BY_LEAVES[leaves]; order++) {
                if (y.near(order) == NONE) nowhere++;
            }
            due.is("of " + leaves + " each can be come to", nowhere, 0);
        }
        int apart = 0;
        FoldedStrip z = Strips.of("lllllll");
        for (int order = 0; order < 462; order++) {
            if (z.near(order) == NONE) apart++;
        }
        due.is("of seven these cannot", apart, 70);
    }

    private static void nearUnknown() {
        Due due = Doc.says("Promise 18", "UNKNOWN: order");
        for (int leaves = 2; leaves <= 7; leaves++) {
            FoldedStrip x = Strips.of(Strips.plain(leaves));
            int many = Strips.ORDERS_BY_LEAVES[leaves];
            due.is("the last of " + leaves, x.near(many - 1) >= 1 ? 1 : 0, 1);
            for (int order : new int[] {-1, many, many + 1, MIN, MAX}) due.is("near(" + order + ")", x.near(order), UNKNOWN);
        }
        due.is("no strip", new FoldedStrip().near(0), UNKNOWN);
    }

    private static void farthest() {
        Due due = Doc.says("Terms", "FARTHEST: the most that NEAR is for any ORDER to which one comes");
        FoldedStrip two = Strips.of("tt");
        due.is("of two", two.far(0), 1);
        due.is("of two, which", two.far(1), 1);
        two.turn();
        due.is("of two, turned", two.far(0), 1);
        due.is("of two, turned, which", two.far(1), 0);
        for (String lie : new String[] {"0123456", APART, "6143250", "2506143"}) {
            FoldedStrip x = Strips.lying("lllllll", lie);
            int most = NONE;
            int which = NONE;
            for (int order = 0; order < 462; order++) {
                int near = x.near(order);
                if (near > most) {
                    most = near;
                    which = order;
                }
            }
            due.is(lie, x.far(0), most);
            due.is(lie + ", which", x.far(1), which);
        }
        due.is("those that cannot be come to do not count", Strips.lying("lllllll", "6143250").far(0), 3);
    }

    private static void farthestOfLikeOnes() {
        Due due = Doc.says("Terms", "which: of like ones the least");
        // From 12340 four moves lead to several orders of five leaves.
        FoldedStrip x = Strips.lying("lllll", "12340");
        int likes = 0;
        int least = NONE;
        for (int order = 49; order >= 0; order--) {
            if (x.near(order) != 4) continue;
            likes++;
            least = order;
        }
        due.is("there are like ones", likes > 1 ? 1 : 0, 1);
        due.is("which", x.far(1), least);
        due.is("which", x.far(1), Strips.number("03214"));
    }

    private static void home() {
        Due due = Doc.says("Terms", "HOME: by how few MOVES one comes to one that is FIT; which, of those by so few: the least");
        FoldedStrip fit = Strips.lying("clll", "2310");
        due.is("it is fit", fit.far(2), 0);
        due.is("then it is itself, not the least that is fit", fit.far(3), Strips.number("2310"));
        FoldedStrip x = Strips.of("tll");
        due.is("one move to 102, or to 201", x.far(2), 1);
        due.is("102", x.far(3), Strips.number("102"));
        FoldedStrip y = Strips.of("lcll");
        y.turn();
        due.is("3210: one move", y.far(2), 1);
        due.is("3210: the least by one move, not the least of all", y.far(3), Strips.number("0321"));
        due.is("0231 is fit, but by two moves", y.order(Strips.number("0231"), 0) + y.near(Strips.number("0231")), 3);
    }

    private static void homeNone() {
        Due due = Doc.says("Promise 19", "NONE for 2, 3");
        for (String text : new String[] {"tt", "ww", "ccc", "ttttttt"}) {
            FoldedStrip x = Strips.of(text);
            due.is("none is fit, " + text, x.far(2), NONE);
            due.is("none is fit, " + text + ", which", x.far(3), NONE);
            due.is("farthest is none the less", x.far(0) > 0 ? 1 : 0, 1);
        }
        FoldedStrip x = Strips.lying("clcllll", APART);
        due.is("some are fit", x.orders(1) > 0 ? 1 : 0, 1);
        due.is("some are fit, but none can be come to", x.far(2), NONE);
        due.is("some are fit, but none can be come to, which", x.far(3), NONE);
        x.lay(0);
        due.is("from elsewhere it can", x.far(2) >= 0 ? 1 : 0, 1);
    }

    private static void farOutside() {
        Due due = Doc.says("Promise 19", "OUTSIDE");
        for (int what : new int[] {-1, 4, MIN, MAX}) {
            due.is("far(" + what + ")", Strips.of("ll").far(what), OUTSIDE);
            due.is("none is fit, far(" + what + ")", Strips.of("tt").far(what), OUTSIDE);
            due.is("no strip, far(" + what + ")", new FoldedStrip().far(what), OUTSIDE);
        }
        due.is("far(0)", Strips.of("ll").far(0), 1);
        due.is("far(3)", Strips.of("ll").far(3), 0);
    }

    private static void farState() {
        Due due = Doc.says("Promise 19", "STATE: no STRIP");
        for (int what = 0; what <= 3; what++) due.is("far(" + what + ")", new FoldedStrip().far(what), STATE);
    }

    private static void trimLeast() {
        Due due = Doc.says("Terms", "which FIT ORDER has the least WIDEST HINGE: of like ones the least: which; how WIDE");
        trimOf(due, "ll", "01", 0);
        trimOf(due, "cc", "01", 0);
        trimOf(due, "lllllll", "0123456", 0);
        // 0 must lie within: 102 and 201 have a hinge of 1 each.
        trimOf(due, "tll", "102", 1);
        // 1 must lie outside: 1023 has a hinge of 1, 0231, 0321 and 1032 are wider, or as wide and behind it.
        trimOf(due, "lcll", "1023", 1);
        // The least of those that are fit, 021, is as wide as a board, and so are all others.
        trimOf(due, "wwb", "021", 3);
        FoldedStrip x = Strips.of("lcll");
        for (int order = 0; order < 16; order++) {
            x.lay(order);
            due.is("wherever it lies", x.trim(0), Strips.number("1023"));
        }
    }

    private static void trimOf(Due due, String text, String lie, int wide) {
        FoldedStrip x = Strips.of(text);
        due.is("which, of " + text, x.trim(0), Strips.number(lie));
        due.is("how wide, of " + text, x.trim(1), wide);
    }

    private static void trimNone() {
        Due due = Doc.says("Promise 20", "TRIM: what = 0 which, 1 how WIDE; NONE");
        for (String text : new String[] {"tt", "wt", "ccc", "twwtwww"}) {
            FoldedStrip x = Strips.of(text);
            due.is("which, of " + text, x.trim(0), NONE);
            due.is("how wide, of " + text, x.trim(1), NONE);
        }
        FoldedStrip apart = Strips.lying("clcllll", APART);
        due.is("whether it can be come to, or not", apart.order(apart.trim(0), 0), 1);
    }

    private static void trimOutside() {
        Due due = Doc.says("Promise 20", "OUTSIDE");
        for (int what : new int[] {-1, 2, MIN, MAX}) {
            due.is("trim(" + what + ")", Strips.of("ll").trim(what), OUTSIDE);
            due.is("none is fit, trim(" + what + ")", Strips.of("tt").trim(what), OUTSIDE);
            due.is("no strip, trim(" + what + ")", new FoldedStrip().trim(what), OUTSIDE);
        }
    }

    private static void trimState() {
        Due due = Doc.says("Promise 20", "STATE: no STRIP");
        due.is("trim(0)", new FoldedStrip().trim(0), STATE);
        due.is("trim(1)", new FoldedStrip().trim(1), STATE);
    }

    // What is fit is so when turned, too: so where any is, the one is above in just half of them.
    private static void oddsInLowestTerms() {
        Due due = Doc.says("Terms", "in how many the one lies above the other one, of how many, in lowest terms");
        for (String text : new String[] {"ll", "cl", "tll", "lllllll", "clwlbtl"}) {
            FoldedStrip x = Strips.of(text);
            for (int leaf = 1; leaf < text.length(); leaf++) {
                due.is("0 above " + leaf + " of " + text, x.odds(0, leaf, 0), 1);
                due.is("0 above " + leaf + " of " + text + ", of how many", x.odds(0, leaf, 1), 2);
                due.is(leaf + " above 0 of " + text, x.odds(leaf, 0, 0), 1);
                due.is(leaf + " above 0 of " + text + ", of how many", x.odds(leaf, 0, 1), 2);
            }
        }
    }

    private static void oddsIfNoneIsFit() {
        Due due = Doc.says("Terms", "(0 of 1, if none is FIT)");
        for (String text : new String[] {"tt", "ww", "ccc", "ttttttt"}) {
            FoldedStrip x = Strips.of(text);
            due.is(text, x.odds(0, 1, 0), 0);
            due.is(text + ", of how many", x.odds(0, 1, 1), 1);
            due.is(text + ", outside", x.odds(0, 1, 2), OUTSIDE);
            due.is(text + ", the same", x.odds(1, 1, 0), UNKNOWN);
        }
    }

    private static void oddsUnknown() {
        Due due = Doc.says("Promise 21", "UNKNOWN: one, other, or they are the same");
        for (int leaves : new int[] {2, 7}) {
            FoldedStrip x = Strips.of(Strips.plain(leaves));
            due.is("the first and the last", x.odds(0, leaves - 1, 0), 1);
            due.is("the last and the first", x.odds(leaves - 1, 0, 0), 1);
            for (int no : new int[] {-1, leaves, MIN, MAX}) {
                due.is("odds(" + no + ", 0, 0)", x.odds(no, 0, 0), UNKNOWN);
                due.is("odds(0, " + no + ", 0)", x.odds(0, no, 0), UNKNOWN);
                due.is("odds(" + no + ", " + no + ", 0)", x.odds(no, no, 0), UNKNOWN);
            }
            for (int same = 0; same < leaves; same++) due.is("the same, " + same, x.odds(same, same, 0), UNKNOWN);
        }
        due.is("no strip", new FoldedStrip().odds(0, 1, 0), UNKNOWN);
    }

    private static void oddsOutside() {
        Due due = Doc.says("Promise 21", "OUTSIDE");
        FoldedStrip x = Strips.of("ll");
        for (int what : new int[] {-1, 2, MIN, MAX}) {
            due.is("odds(0, 1, " + what + ")", x.odds(0, 1, what), OUTSIDE);
            due.is("odds(0, 0, " + what + ")", x.odds(0, 0, what), UNKNOWN);
            due.is("odds(2, 1, " + what + ")", x.odds(2, 1, what), UNKNOWN);
            due.is("odds(0, -1, " + what + ")", x.odds(0, -1, what), UNKNOWN);
            due.is("no strip, odds(0, 1, " + what + ")", new FoldedStrip().odds(0, 1, what), UNKNOWN);
        }
    }
}
