/** The edges of promises 1 to 10, the strip: each method holds the sentence that it quotes. */
public final class StripBoundsTest {
    private static final int NONE = Strips.NONE, UNKNOWN = Strips.UNKNOWN, OUTSIDE = Strips.OUTSIDE;
    private static final int STATE = Strips.STATE, FULL = Strips.FULL, MIN = Strips.MIN, MAX = Strips.MAX;

    public static void main(String[] args) {
        noStrip();
        lettersOfThePage();
        letterOutside();
        letterFull();
        blankHad();
        faultFromZero();
        faultBehindThoseAhead();
        faultIfNone();
        stripNone();
        stripLeaves();
        stripGone();
        stripPageEmpty();
        leafUnknown();
        leafOutside();
        leafAsItsKindWants();
        asNone();
        asUnknown();
        asOutside();
        hingeUnknown();
        hingeOutside();
        hingeWide();
        atUnknown();
        mayAtItsOwn();
        mayUnknown();
        Due.finish();
    }

    private static void noStrip() {
        Due due = Doc.says("Promise 1", "No STRIP.");
        FoldedStrip x = new FoldedStrip();
        due.row("counts", Strips.counts(x), "0 0 0 0 0 0 0 0 0 0");
        for (int number = 0; number <= 6; number++) {
            due.is("leaf " + number, x.leaf(number, 0), UNKNOWN);
            due.is("hinge " + number, x.hinge(number, 0), UNKNOWN);
            due.is("place " + number, x.at(number), UNKNOWN);
            due.is("order " + number, x.order(number, 0), UNKNOWN);
        }
        due.is("could()", x.could(), STATE);
        due.is("forget()", x.forget(), 0);
        due.is("fault()", x.fault(), 0);
        due.is("blank()", x.blank(), 0);
        due.row("another one has its own", Strips.counts(Strips.of("ll")) + ", " + Strips.counts(x),
                "2 2 0 0 2 2 0 0 0 1, 0 0 0 0 0 0 0 0 0 0");
    }

    private static void lettersOfThePage() {
        Due due = Doc.says("Promise 2", "A letter comes behind THE PAGE, by its code: how many THE PAGE has");
        FoldedStrip x = new FoldedStrip();
        String text = "lbwctxl";
        for (int many = 1; many <= 7; many++) due.is("letter " + many, x.letter(text.charAt(many - 1)), many);
        due.is("behind those ahead: the wrong one is at 5", x.fault(), 5);
        FoldedStrip y = Strips.of("ll");
        due.is("the first one behind a strip", y.letter('t'), 1);
        due.is("the strip has no more of it", y.count(0), 2);
    }

    private static void letterOutside() {
        Due due = Doc.says("Promise 2", "OUTSIDE: code (1 to 126)");
        FoldedStrip x = new FoldedStrip();
        due.is("letter(0)", x.letter(0), OUTSIDE);
        due.is("letter(1)", x.letter(1), 1);
        due.is("letter(126)", x.letter(126), 2);
        due.is("letter(127)", x.letter(127), OUTSIDE);
        // No code is taken by its lowest bits alone.
        for (int code : new int[] {-1, 128, 255, 256 + 'l', 65536 + 'l', 'l' - 256, MIN, MIN + 'l', MAX}) {
            due.is("letter(" + code + ")", x.letter(code), OUTSIDE);
        }
        due.is("how many it has", x.count(8), 2);
        for (int code = 1; code <= 126; code++) due.is("letter(" + code + ")", new FoldedStrip().letter(code), 1);
    }

    private static void letterFull() {
        Due due = Doc.says("Promise 2", "FULL: above 9");
        FoldedStrip x = new FoldedStrip();
        for (int many = 1; many <= 9; many++) due.is("letter " + many, x.letter('l'), many);
        due.is("letter 10", x.letter('l'), FULL);
        due.is("letter 10, again", x.letter(1), FULL);
        due.is("letter 10, outside", x.letter(0), OUTSIDE);
        due.is("how many it has", x.count(8), 9);
        due.is("blank()", x.blank(), 9);
        due.is("letter 1", x.letter('l'), 1);
        FoldedStrip y = Strips.of("lllllll");
        for (int many = 1; many <= 9; many++) due.is("behind a strip, letter " + many, y.letter(126), many);
        due.is("behind a strip, letter 10", y.letter(126), FULL);
    }

    private static void blankHad() {
        Due due = Doc.says("Promise 3", "THE PAGE is empty: how many letters it had");
        FoldedStrip x = new FoldedStrip();
        due.is("of an empty one", x.blank(), 0);
        x.letter(1);
        due.is("of one letter", x.blank(), 1);
        Strips.write(x, "lbwctxyzl");
        due.is("of a full one", x.blank(), 9);
        due.is("again", x.blank(), 0);
        due.is("letters", x.count(8), 0);
        due.is("nothing is wrong on it", x.fault(), 0);
        due.is("nor is it a strip", x.strip(), STATE);
        Strips.write(x, "cb");
        due.is("what comes then is the first", x.strip(), 2);
        due.is("of what was, nothing is left", x.leaf(0, 0), 3);
        Strips.write(x, "lll");
        due.is("of three", x.blank(), 3);
        due.is("the strip stays", x.count(0), 2);
    }

    private static void faultFromZero() {
        Due due = Doc.says("Promise 4", "The place (from 0) of the first letter of THE PAGE that no STRIP has there");
        for (int place = 0; place < 7; place++) {
            due.is("one wrong", faultOf("lbwctlb".substring(0, place) + "x" + "lbwctlb".substring(place + 1)), place);
            due.is("the last is wrong", faultOf("lbwctlb".substring(0, place) + "x"), place);
            due.is("all from there on are wrong", faultOf("lbwctlb".substring(0, place) + "xxxxxxxxx".substring(place)), place);
        }
        for (int code = 1; code <= 126; code++) {
            boolean kind = code == 'l' || code == 'b' || code == 'w' || code == 'c' || code == 't';
            FoldedStrip first = new FoldedStrip();
            first.letter(code);
            due.is("code " + code + " at 0", first.fault(), kind ? 1 : 0);
            FoldedStrip seventh = new FoldedStrip();
            Strips.write(seventh, "tttttt");
            seventh.letter(code);
            due.is("code " + code + " at 6", seventh.fault(), kind ? 7 : 6);
        }
    }

    private static void faultBehindThoseAhead() {
        Due due = Doc.says("Promise 4", "behind those ahead of it");
        due.is("seven good ones", faultOf("lbwctlb"), 7);
        due.is("an eighth, good by itself", faultOf("lbwctlbl"), 7);
        due.is("a ninth, good by itself", faultOf("lbwctlblb"), 7);
        due.is("an eighth that is wrong", faultOf("lbwctlbx"), 7);
        due.is("a ninth that is wrong", faultOf("lbwctlblx"), 7);
        due.is("a wrong one, and too many", faultOf("lbwctlxlb"), 6);
    }

    private static void faultIfNone() {
        Due due = Doc.says("Promise 4", "how many letters it has, if there is none");
        due.is("of an empty page", faultOf(""), 0);
        due.is("of one letter, which is no strip yet", faultOf("l"), 1);
        for (int letters = 2; letters <= 7; letters++) due.is("of " + letters, faultOf("tcwblll".substring(0, letters)), letters);
        FoldedStrip x = Strips.of("lbwctl");
        due.is("the page is empty behind a strip", x.fault(), 0);
    }

    private static int faultOf(String text) {
        FoldedStrip x = new FoldedStrip();
        Strips.write(x, text);
        int fault = x.fault();
        // It only looks: the same once more, and as many letters.
        return x.fault() == fault && x.count(8) == text.length() ? fault : -1000;
    }

    private static void stripNone() {
        Due due = Doc.says("Promise 5", "STATE: it is none");
        for (String text : new String[] {"", "l", "x", "xl", "lx", "lxl", "llllllx", "xllllll", "lllllll ", "llllllll", "lllllllll", "LL", "l l"}) {
            FoldedStrip x = new FoldedStrip();
            Strips.write(x, text);
            due.is("\"" + text + "\"", x.strip(), STATE);
            due.is("leaves of \"" + text + "\"", x.count(0), 0);
            due.is("letters of \"" + text + "\"", x.count(8), text.length());
            due.is("strips read", x.count(9), 0);
        }
        FoldedStrip x = new FoldedStrip();
        x.letter('l');
        due.is("of one letter", x.strip(), STATE);
        x.letter('c');
        due.is("it is one, with another letter", x.strip(), 2);
    }

    private static void stripLeaves() {
        Due due = Doc.says("Promise 5", "how many LEAVES");
        for (int leaves = 2; leaves <= 7; leaves++) {
            for (char kind : "lbwct".toCharArray()) {
                FoldedStrip x = new FoldedStrip();
                Strips.write(x, Strips.plain(leaves).replace('l', kind));
                due.is(leaves + " " + kind, x.strip(), leaves);
                due.is("counted", x.count(0), leaves);
            }
        }
    }

    /** Behind whatever was, a strip is as behind the shortest and plainest one. */
    private static void stripGone() {
        Due due = Doc.says("Promise 5", "another one is gone, with all that was");
        for (String next : new String[] {"ll", "tc", "lwl", "clwlbtl"}) {
            FoldedStrip plain = Strips.of("ll");
            Strips.read(plain, next);
            String want = Strips.fate(plain);
            for (String first : new String[] {"cc", "clwlbtl", "wwwwwww", "bcbt"}) {
                FoldedStrip x = used(first);
                Strips.read(x, next);
                due.row(next + " behind " + first, Strips.fate(x), want);
            }
        }
        FoldedStrip x = used("clwlbtl");
        Strips.read(x, "ll");
        due.row("counts", Strips.counts(x), "2 2 0 0 2 2 0 0 0 2");
        due.is("its third leaf", x.leaf(2, 0), UNKNOWN);
        due.is("its second hinge", x.hinge(1, 0), UNKNOWN);
        due.is("its third order", x.lay(2), UNKNOWN);
        due.is("its image", x.restore(), STATE);
        due.is("what was seen", x.could(), 2);
    }

    private static FoldedStrip used(String text) {
        FoldedStrip x = Strips.of(text);
        x.move(0, 1);
        x.change(0, 4);
        x.far(0);
        for (int many = 0; many < 6; many++) x.see(1, 1, many > 0);
        x.image();
        x.turn();
        return x;
    }

    private static void stripPageEmpty() {
        Due due = Doc.says("Promise 5", "THE PAGE is empty then");
        for (int leaves = 2; leaves <= 7; leaves += 5) {
            FoldedStrip x = Strips.of(Strips.plain(leaves));
            due.is("letters", x.count(8), 0);
            due.is("blank()", x.blank(), 0);
            due.is("it is not read twice", x.strip(), STATE);
            due.is("the strip stays", x.count(0), leaves);
            due.is("strips read", x.count(9), 1);
        }
    }

    private static void leafUnknown() {
        Due due = Doc.says("Promise 6", "UNKNOWN");
        for (int leaves : new int[] {2, 7}) {
            FoldedStrip x = Strips.of(Strips.plain(leaves));
            for (int what = 0; what <= 3; what++) {
                due.is("the first", x.leaf(0, what) >= 0 ? 1 : 0, 1);
                due.is("the last", x.leaf(leaves - 1, what) >= 0 ? 1 : 0, 1);
                for (int leaf : new int[] {-1, leaves, leaves + 1, MIN, MAX}) {
                    due.is("leaf(" + leaf + ", " + what + ") of " + leaves, x.leaf(leaf, what), UNKNOWN);
                }
            }
        }
        due.is("no strip", new FoldedStrip().leaf(0, 0), UNKNOWN);
    }

    private static void leafOutside() {
        Due due = Doc.says("Promise 6", "UNKNOWN; OUTSIDE");
        FoldedStrip x = Strips.of("lt");
        due.is("leaf(1, 0)", x.leaf(1, 0), 4);
        due.is("leaf(1, 1)", x.leaf(1, 1), 1);
        due.is("leaf(1, 2)", x.leaf(1, 2), 1);
        due.is("leaf(1, 3)", x.leaf(1, 3), 0);
        for (int what : new int[] {-1, 4, MIN, MAX}) {
            due.is("leaf(1, " + what + ")", x.leaf(1, what), OUTSIDE);
            due.is("leaf(2, " + what + ")", x.leaf(2, what), UNKNOWN);
            due.is("leaf(-1, " + what + ")", x.leaf(-1, what), UNKNOWN);
            due.is("no strip, leaf(0, " + what + ")", new FoldedStrip().leaf(0, what), UNKNOWN);
        }
    }

    private static void leafAsItsKindWants() {
        Due due = Doc.says("Promise 6", "a COVER outside, a TARRED one within, no WAXED one right upon one; others always");
        contentIn(due, "ccccccc", "0123456", "1000001");
        contentIn(due, "lcllllc", "1023456", "1111111");
        contentIn(due, "tltltlt", "0123456", "0111110");
        contentIn(due, "tltltlt", "1654320", "0101111");
        contentIn(due, "wwlwlww", "0123456", "0011100");
        contentIn(due, "wllwlwl", "0123456", "1111111");
        contentIn(due, "lwtlltw", "0123456", "1001100");
        contentIn(due, "blblblb", "0123456", "1111111");
        contentIn(due, "cc", "01", "11");
        contentIn(due, "cc", "10", "11");
        contentIn(due, "tl", "01", "01");
        contentIn(due, "tl", "10", "01");
        contentIn(due, "ww", "10", "00");
        contentIn(due, "wt", "01", "00");
        contentIn(due, "cw", "01", "11");
    }

    private static void contentIn(Due due, String text, String lie, String want) {
        FoldedStrip x = Strips.lying(text, lie);
        StringBuilder got = new StringBuilder();
        for (int leaf = 0; leaf < text.length(); leaf++) got.append(x.leaf(leaf, 3));
        due.row(text + " lying " + lie, got.toString(), want);
    }

    private static void asNone() {
        Due due = Doc.says("Promise 7", "its number; NONE: it is none such (the cast fails)");
        String[] kinds = {"lbwct", "bc", "wt", "c", "t"};
        for (int leaves : new int[] {2, 7}) {
            for (char own : "lbwct".toCharArray()) {
                FoldedStrip x = Strips.of(Strips.plain(leaves).replace('l', own));
                for (int kind = 0; kind <= 4; kind++) {
                    boolean such = kinds[kind].indexOf(own) >= 0;
                    due.is("the first, " + own + " as " + kind, x.as(0, kind), such ? 0 : NONE);
                    due.is("the last, " + own + " as " + kind, x.as(leaves - 1, kind), such ? leaves - 1 : NONE);
                }
            }
        }
    }

    private static void asUnknown() {
        Due due = Doc.says("Promise 7", "UNKNOWN");
        for (int leaves : new int[] {2, 7}) {
            FoldedStrip x = Strips.of(Strips.plain(leaves));
            for (int leaf : new int[] {-1, leaves, leaves + 1, MIN, MAX}) {
                for (int kind = -1; kind <= 5; kind++) due.is("as(" + leaf + ", " + kind + ")", x.as(leaf, kind), UNKNOWN);
            }
        }
        due.is("no strip", new FoldedStrip().as(0, 0), UNKNOWN);
        due.is("no strip, no kind", new FoldedStrip().as(0, 5), UNKNOWN);
    }

    private static void asOutside() {
        Due due = Doc.says("Promise 7", "UNKNOWN; OUTSIDE");
        FoldedStrip x = Strips.of("lt");
        due.is("as(1, 0)", x.as(1, 0), 1);
        due.is("as(1, 4)", x.as(1, 4), 1);
        for (int kind : new int[] {-1, 5, MIN, MAX}) {
            due.is("as(0, " + kind + ")", x.as(0, kind), OUTSIDE);
            due.is("as(1, " + kind + ")", x.as(1, kind), OUTSIDE);
        }
    }

    private static void hingeUnknown() {
        Due due = Doc.says("Promise 8", "UNKNOWN");
        for (int leaves = 2; leaves <= 7; leaves++) {
            FoldedStrip x = Strips.of(Strips.plain(leaves));
            for (int what = 0; what <= 1; what++) {
                due.is("the first", x.hinge(0, what), 0);
                due.is("the last", x.hinge(leaves - 2, what), what == 0 ? leaves % 2 : 0);
                for (int hinge : new int[] {-1, leaves - 1, leaves, MIN, MAX}) {
                    due.is("hinge(" + hinge + ", " + what + ") of " + leaves, x.hinge(hinge, what), UNKNOWN);
                }
            }
        }
        due.is("no strip", new FoldedStrip().hinge(0, 0), UNKNOWN);
        due.is("no strip, below 0", new FoldedStrip().hinge(-1, 0), UNKNOWN);
    }

    private static void hingeOutside() {
        Due due = Doc.says("Promise 8", "UNKNOWN; OUTSIDE");
        FoldedStrip x = Strips.of("lll");
        for (int what : new int[] {-1, 2, MIN, MAX}) {
            due.is("hinge(1, " + what + ")", x.hinge(1, what), OUTSIDE);
            due.is("hinge(2, " + what + ")", x.hinge(2, what), UNKNOWN);
            due.is("hinge(-1, " + what + ")", x.hinge(-1, what), UNKNOWN);
            due.is("no strip, hinge(0, " + what + ")", new FoldedStrip().hinge(0, what), UNKNOWN);
        }
    }

    private static void hingeWide() {
        Due due = Doc.says("Promise 8", "0 on which side it is (0 the one, 1 the other), 1 how WIDE it is as it lies");
        FoldedStrip x = Strips.of("bbbbbbb");
        for (int hinge = 0; hinge <= 5; hinge++) due.is("width of " + hinge + ", zigzag", x.hinge(hinge, 1), 0);
        x.lay(Strips.number("0234561"));
        due.is("the widest that there is", x.hinge(0, 1), 15);
        due.is("and the next one", x.hinge(1, 1), 12);
        x.change(4, 0);
        due.is("with a leaf for a board", x.hinge(0, 1), 13);
        due.is("with a leaf for a board, the next one", x.hinge(1, 1), 10);
    }

    private static void atUnknown() {
        Due due = Doc.says("Promise 9", "UNKNOWN");
        for (int leaves = 2; leaves <= 7; leaves++) {
            FoldedStrip x = Strips.of(Strips.plain(leaves));
            x.turn();
            due.is("on top", x.at(0), leaves - 1);
            due.is("at the bottom", x.at(leaves - 1), 0);
            for (int place : new int[] {-1, leaves, leaves + 1, MIN, MAX}) {
                due.is("at(" + place + ") of " + leaves, x.at(place), UNKNOWN);
            }
        }
        due.is("no strip", new FoldedStrip().at(0), UNKNOWN);
    }

    private static void mayAtItsOwn() {
        Due due = Doc.says("Promise 10", "(at its own: 1)");
        for (String lie : new String[] {"01", "10", "0123456", "6543210", "0234561", "0143265"}) {
            FoldedStrip x = Strips.lying(Strips.plain(lie.length()), lie);
            for (int place = 0; place < lie.length(); place++) due.is(lie + ", place " + place, x.may(lie.charAt(place) - '0', place), 1);
        }
    }

    private static void mayUnknown() {
        Due due = Doc.says("Promise 10", "UNKNOWN: leaf, place");
        for (int leaves : new int[] {2, 7}) {
            FoldedStrip x = Strips.of(Strips.plain(leaves));
            due.is("the last to the first place", x.may(leaves - 1, 0), 1);
            due.is("the first to the last place", x.may(0, leaves - 1), 1);
            for (int no : new int[] {-1, leaves, MIN, MAX}) {
                due.is("may(" + no + ", 0)", x.may(no, 0), UNKNOWN);
                due.is("may(0, " + no + ")", x.may(0, no), UNKNOWN);
                due.is("may(" + no + ", " + no + ")", x.may(no, no), UNKNOWN);
            }
        }
        due.is("no strip", new FoldedStrip().may(0, 0), UNKNOWN);
    }
}
