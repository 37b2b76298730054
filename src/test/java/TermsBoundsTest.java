/** The edges that the document's words in capitals have by themselves: each method holds the sentence that it quotes. */
public final class TermsBoundsTest {
    private static final int UNKNOWN = Strips.UNKNOWN, STATE = Strips.STATE, NONE = Strips.NONE;

    public static void main(String[] args) {
        twoToSevenLetters();
        numberedFromZero();
        fiveHundredTwelveCalls();
        hingesJoin();
        atFirstNone();
        kindsThatAreOthersToo();
        sides();
        cross();
        crossOnOneSideAlone();
        canBeFolded();
        waxed();
        covers();
        tarred();
        thick();
        wide();
        move();
        moveFitOrNot();
        turn();
        numbersOfOrders();
        fits();
        Due.finish();
    }

    private static void twoToSevenLetters() {
        Due due = Doc.says("What it is", "two to seven letters");
        for (int letters = 0; letters <= 9; letters++) {
            FoldedStrip x = new FoldedStrip();
            Strips.write(x, "lbwctlbwc".substring(0, letters));
            boolean taken = letters >= 2 && letters <= 7;
            due.is(letters + " letters", x.strip(), taken ? letters : STATE);
            due.is("leaves of " + letters + " letters", x.count(0), taken ? letters : 0);
        }
    }

    private static void numberedFromZero() {
        Due due = Doc.says("What it is", "numbered from 0, from left to right");
        FoldedStrip seven = Strips.of("lbwctwb");
        int[] kinds = {0, 1, 2, 3, 4, 2, 1};
        for (int leaf = 0; leaf < 7; leaf++) due.is("kind of " + leaf, seven.leaf(leaf, 0), kinds[leaf]);
        due.is("left of the first", seven.leaf(-1, 0), UNKNOWN);
        due.is("right of the last", seven.leaf(7, 0), UNKNOWN);
        FoldedStrip two = Strips.of("tc");
        due.is("the first of two", two.leaf(0, 0), 4);
        due.is("the last of two", two.leaf(1, 0), 3);
        due.is("left of the first", two.leaf(-1, 0), UNKNOWN);
        due.is("right of the last", two.leaf(2, 0), UNKNOWN);
    }

    /** The last of 512 calls is answered as the first ones are, whatever the calls ahead of it were. */
    private static void fiveHundredTwelveCalls() {
        Due due = Doc.says("What it is", "An object is used for at most 512 calls after it has been made");
        FoldedStrip moved = Strips.of("ll");
        for (int call = 4; call <= 511; call++) due.is("call " + call, moved.move(1, call % 2), 0);
        due.is("call 512: moves", moved.count(6), 508);
        FoldedStrip read = new FoldedStrip();
        for (int call = 3; call <= 510; call += 3) Strips.read(read, "lc");
        read.blank();
        due.is("call 512: strips read", read.count(9), 170);
        FoldedStrip turned = Strips.of("clwlbtl");
        for (int call = 9; call <= 511; call++) turned.turn();
        FoldedStrip once = Strips.of("clwlbtl");
        once.turn();
        due.is("call 512: digest", turned.digest(), once.digest());
        FoldedStrip looked = Strips.of("lllllll");
        for (int call = 9; call <= 511; call++) looked.near(call % 462);
        due.is("call 512: near", looked.near(461), Strips.of("lllllll").near(461));
        FoldedStrip forgetful = Strips.of("lll");
        for (int call = 5; call <= 511; call++) {
            if (call % 13 == 0) forgetful.forget();
            else forgetful.see(0, 1, true);
        }
        due.is("call 512: seen", forgetful.count(7), 4);
    }

    private static void hingesJoin() {
        Due due = Doc.says("Terms", "LEAF 0 is joined to LEAF 1 by HINGE 0, LEAF 1 to LEAF 2 by HINGE 1, and so on");
        FoldedStrip two = Strips.of("ll");
        due.is("the one hinge of two", two.hinge(0, 0), 0);
        due.is("behind it", two.hinge(1, 0), UNKNOWN);
        FoldedStrip seven = Strips.lying("lllllll", "6012345");
        for (int hinge = 0; hinge <= 4; hinge++) due.is("width of " + hinge, seven.hinge(hinge, 1), 0);
        due.is("the last joins 5 and 6, around all others", seven.hinge(5, 1), 5);
        due.is("behind it", seven.hinge(6, 1), UNKNOWN);
        due.is("ahead of the first", seven.hinge(-1, 1), UNKNOWN);
        seven.lay(Strips.number("1234560"));
        due.is("the first joins 0 and 1, around all others", seven.hinge(0, 1), 5);
        for (int hinge = 1; hinge <= 5; hinge++) due.is("width of " + hinge, seven.hinge(hinge, 1), 0);
    }

    private static void atFirstNone() {
        Due due = Doc.says("Terms", "At first there is none; then it lies zigzag: LEAF 0 on top, LEAF 1 below it, and so on");
        for (int leaves = 2; leaves <= 7; leaves++) {
            FoldedStrip x = new FoldedStrip();
            due.is("leaves at first", x.count(0), 0);
            due.is("on top at first", x.at(0), UNKNOWN);
            Strips.read(x, Strips.plain(leaves));
            for (int place = 0; place < leaves; place++) due.is("at(" + place + ")", x.at(place), place);
            due.is("below the last", x.at(leaves), UNKNOWN);
        }
    }

    private static void kindsThatAreOthersToo() {
        Due due = Doc.says("Terms", "All are LEAVES; a COVER is a BOARD, too, a TARRED one WAXED");
        FoldedStrip x = Strips.of("lbwct");
        for (int leaf = 0; leaf < 5; leaf++) due.is(leaf + " is a leaf", x.as(leaf, 0), leaf);
        due.is("a cover is a board", x.as(3, 1), 3);
        due.is("a tarred one is waxed", x.as(4, 2), 4);
        due.is("a board is no cover", x.as(1, 3), NONE);
        due.is("a waxed one is not tarred", x.as(2, 4), NONE);
        due.is("a cover is not waxed", x.as(3, 2), NONE);
        due.is("a tarred one is no board", x.as(4, 1), NONE);
        due.is("a leaf is no board", x.as(0, 1), NONE);
    }

    private static void sides() {
        Due due = Doc.says("Terms", "HINGES of even numbers are on the one side of the STRIP as it lies, those of odd numbers on the other one");
        FoldedStrip x = Strips.of("lllllll");
        int[] sides = {0, 1, 0, 1, 0, 1};
        for (int hinge = 0; hinge <= 5; hinge++) due.is("side of " + hinge, x.hinge(hinge, 0), sides[hinge]);
        x.turn();
        for (int hinge = 0; hinge <= 5; hinge++) due.is("side of " + hinge + ", turned", x.hinge(hinge, 0), sides[hinge]);
    }

    private static void cross() {
        Due due = Doc.says("Terms", "just one is between those that are joined by the other one");
        FoldedStrip x = Strips.of("llll");
        due.is("none between: 0132", x.may(3, 2), 1);
        due.is("just one: 0213", x.may(1, 2), 0);
        due.is("both: 0231", x.may(1, 3), 1);
        due.is("just one, of the other hinge: 2031", Strips.lying("llll", "0231").may(2, 0), 0);
        FoldedStrip y = Strips.of("lllll");
        due.is("just one, on the odd side: 01324", y.may(2, 3), 0);
        due.is("both, on the odd side: 01342", y.may(2, 4), 1);
        due.is("none, on the odd side: 01243", y.may(4, 3), 1);
        FoldedStrip z = Strips.of("lllllll");
        due.is("just one, of the last hinges on the odd side: 0123546", z.may(4, 5), 0);
        due.is("both, of the last hinges on the odd side: 0123564", z.may(4, 6), 1);
        due.is("just one, of the first and the last on the even side: 0234156", z.may(1, 4), 0);
    }

    private static void crossOnOneSideAlone() {
        Due due = Doc.says("Terms", "Two HINGES on the same side CROSS");
        FoldedStrip x = Strips.of("lll");
        for (int leaf = 0; leaf < 3; leaf++) {
            for (int place = 0; place < 3; place++) due.is("hinges of two sides: " + leaf + " to " + place, x.may(leaf, place), 1);
        }
        due.is("hinges of two sides: 3102, one between at either side", Strips.lying("llll", "3012").may(1, 1), 1);
    }

    private static void canBeFolded() {
        Due due = Doc.says("Terms", "An ORDER can be FOLDED, if no two HINGES CROSS");
        due.is("of two, one hinge: all", Strips.of("ll").orders(0), 2);
        due.is("of three, a hinge on each side: all", Strips.of("lll").orders(0), 6);
        due.is("of four: 16 of 24", Strips.of("llll").orders(0), 16);
        due.is("of seven: 462 of 5040", Strips.of("lllllll").orders(0), 462);
    }

    private static void waxed() {
        Due due = Doc.says("Terms", "no two WAXED ones lie right upon each other");
        for (int one = 0; one < 7; one++) {
            for (int other = one + 1; other < 7; other++) {
                String text = with(with(Strips.plain(7), one, 'w'), other, 'w');
                due.is(text + " zigzag", Strips.of(text).order(0, 0), other - one == 1 ? 0 : 1);
            }
        }
        due.is("two of two", Strips.of("ww").orders(1), 0);
        due.is("one of two", Strips.of("wl").orders(1), 2);
        due.is("a tarred one is waxed, below", Strips.of("wtl").order(0, 0), 0);
        due.is("a tarred one is waxed, above", Strips.of("ltw").order(0, 0), 0);
        due.is("a tarred one by another", Strips.of("lttl").order(0, 0), 0);
        due.is("wltlw: none right upon another", Strips.of("wltlw").order(0, 0), 1);
    }

    private static void covers() {
        Due due = Doc.says("Terms", "each COVER is at the top, or at the bottom");
        for (int leaf = 0; leaf < 7; leaf++) {
            String text = with(Strips.plain(7), leaf, 'c');
            due.is(text + " zigzag", Strips.of(text).order(0, 0), leaf == 0 || leaf == 6 ? 1 : 0);
        }
        due.is("two of two", Strips.of("cc").orders(1), 2);
        due.is("two of three", Strips.of("clc").order(0, 0), 1);
        due.is("three of three", Strips.of("ccc").orders(1), 0);
        due.is("three of seven", Strips.of("cllcllc").orders(1), 0);
    }

    private static void tarred() {
        Due due = Doc.says("Terms", "and no TARRED one is");
        for (int leaf = 0; leaf < 7; leaf++) {
            String text = with(Strips.plain(7), leaf, 't');
            due.is(text + " zigzag", Strips.of(text).order(0, 0), leaf == 0 || leaf == 6 ? 0 : 1);
        }
        due.is("one of two", Strips.of("tl").orders(1) + Strips.of("lt").orders(1), 0);
        due.is("one of three: 102, 201", Strips.of("tll").orders(1), 2);
    }

    private static void thick() {
        Due due = Doc.says("Terms", "A LEAF is 1 THICK, a BOARD 3 (a COVER, too)");
        FoldedStrip x = Strips.of("lbwct");
        int[] thick = {1, 3, 1, 3, 1};
        for (int leaf = 0; leaf < 5; leaf++) due.is("how thick is " + leaf, x.leaf(leaf, 1), thick[leaf]);
        due.is("the thinnest of all", Strips.of("tw").count(1), 2);
        due.is("the thickest of all", Strips.of("cbcbcbc").count(1), 21);
    }

    private static void wide() {
        Due due = Doc.says("Terms", "A HINGE is as WIDE as all that lies between the two LEAVES that it joins is THICK, together");
        due.is("nothing between", Strips.of("bb").hinge(0, 1), 0);
        due.is("all others between, boards", Strips.lying("llbcbcb", "0234561").hinge(0, 1), 15);
        due.is("those that it joins are not between", Strips.lying("bclwtlw", "0234561").hinge(0, 1), 5);
        due.is("the other way about", Strips.lying("bclwtlw", "1654320").hinge(0, 1), 5);
        due.is("one between", Strips.lying("llb", "021").hinge(0, 1), 3);
        due.is("at its edge, none between", Strips.lying("llb", "021").hinge(1, 1), 0);
    }

    private static void move() {
        Due due = Doc.says("Terms", "puts it in at another PLACE (those between move up, or down)");
        FoldedStrip x = Strips.of("lllllll");
        x.move(0, 6);
        due.row("from the top to the bottom", Strips.lie(x), "1234560");
        x.move(0, 0);
        due.row("from the bottom to the top", Strips.lie(x), "0123456");
        x.move(3, 0);
        due.row("those below stay", Strips.lie(x), "3012456");
        due.is("its own place", x.move(3, 0), STATE);
        due.row("its own place changes nothing", Strips.lie(x), "3012456");
        FoldedStrip two = Strips.of("ll");
        due.is("its own place", two.move(1, 1), STATE);
        due.is("up", two.move(1, 0), 0);
        due.row("two", Strips.lie(two), "10");
        due.is("down", two.move(1, 1), 0);
        due.row("two", Strips.lie(two), "01");
    }

    private static void moveFitOrNot() {
        Due due = Doc.says("Terms", "so that it is FOLDED again (FIT or not)");
        FoldedStrip x = Strips.of("clll");
        due.is("fit before", x.orders(3), 1);
        due.is("a cover put within", x.move(0, 1), 1);
        due.is("fit then", x.orders(3), 0);
        due.is("not folded", Strips.of("llll").move(1, 2), STATE);
        due.is("from what is not fit to what is not", Strips.of("tt").move(0, 1), 0);
    }

    private static void turn() {
        Due due = Doc.says("Terms", "To TURN it is to lay it the other way about: the last one on top, and so on");
        for (int order = 0; order < 2; order++) {
            FoldedStrip x = Strips.of("ll");
            x.lay(order);
            x.turn();
            due.row("two, in order " + order, Strips.lie(x), order == 0 ? "10" : "01");
        }
        FoldedStrip x = Strips.lying("lllllll", "0234561");
        x.turn();
        due.row("seven", Strips.lie(x), "1654320");
        FoldedStrip y = Strips.of("lllllll");
        y.turn();
        due.row("seven, zigzag", Strips.lie(y), "6543210");
    }

    private static void numbersOfOrders() {
        Due due = Doc.says("Terms", "they are numbered from 0, as they come if the LEAF on top counts first, then the next one, and so on, the least ones first");
        for (int leaves = 2; leaves <= 7; leaves++) {
            int many = Strips.ORDERS_BY_LEAVES[leaves];
            String before = "";
            for (int order = 0; order < many; order++) {
                // A new one for each, since an object is used for 512 calls.
                String lie = order(Strips.of(Strips.plain(leaves)), order, leaves);
                if (order == 0) due.row("the first of " + leaves, lie, Strips.zigzag(leaves));
                due.is("order " + order + " comes behind the one before", before.compareTo(lie) < 0 ? 1 : 0, 1);
                due.is("order " + order + " is folded", Strips.isFolded(lie) ? 1 : 0, 1);
                before = lie;
            }
            due.row("the last of " + leaves, before, new StringBuilder(Strips.zigzag(leaves)).reverse().toString());
            FoldedStrip x = Strips.of(Strips.plain(leaves));
            due.is("ahead of the first", x.order(-1, 10), UNKNOWN);
            due.is("behind the last of " + leaves, x.order(many, 10), UNKNOWN);
        }
    }

    private static String order(FoldedStrip x, int order, int leaves) {
        StringBuilder lie = new StringBuilder();
        for (int place = 0; place < leaves; place++) lie.append(x.order(order, 10 + place));
        return lie.toString();
    }

    private static void fits() {
        Due due = Doc.says("Terms", "FITS are those of them that are FIT");
        due.is("all of two", Strips.of("cl").orders(1), 2);
        due.is("none of two", Strips.of("ct").orders(1), 0);
        due.is("all of seven", Strips.of("blblblb").orders(1), 462);
        due.is("none of seven", Strips.of("ttttttt").orders(1), 0);
    }

    private static String with(String text, int leaf, char letter) {
        return text.substring(0, leaf) + letter + text.substring(leaf + 1);
    }
}
