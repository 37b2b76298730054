/**
 * A method for each promise of the document: ordinary calls, the edges that it names, and wrong ones.
 * What is due was worked out by hand; the orders of three and of four leaves that it rests on are these.
 * Three leaves: 0 012, 1 021, 2 102, 3 120, 4 201, 5 210.
 * Four leaves: 0 0123, 1 0132, 2 0231, 3 0321, 4 1023, 5 1032, 6 1230, 7 1320,
 * 8 2013, 9 2103, 10 2301, 11 2310, 12 3012, 13 3102, 14 3201, 15 3210.
 */
public final class PromisesTest {
    private static final int NONE = Strips.NONE, UNKNOWN = Strips.UNKNOWN, OUTSIDE = Strips.OUTSIDE;
    private static final int STATE = Strips.STATE, FULL = Strips.FULL, MIN = Strips.MIN, MAX = Strips.MAX;
    private static final String ORDERS_OF_FOUR =
            "0123 0132 0231 0321 1023 1032 1230 1320 2013 2103 2301 2310 3012 3102 3201 3210";

    public static void main(String[] args) {
        constants();
        newObject();
        letter();
        blank();
        fault();
        strip();
        leaf();
        as();
        hinge();
        at();
        may();
        move();
        turn();
        lay();
        change();
        orders();
        order();
        tops();
        near();
        far();
        homeOutOfReach();
        trim();
        odds();
        see();
        forget();
        could();
        trial();
        shuffles();
        image();
        restore();
        count();
        digest();
        Due.finish();
    }

    private static void constants() {
        Due due = new Due("the constants");
        due.is("NONE", FoldedStrip.NONE, NONE);
        due.is("UNKNOWN", FoldedStrip.UNKNOWN, UNKNOWN);
        due.is("OUTSIDE", FoldedStrip.OUTSIDE, OUTSIDE);
        due.is("STATE", FoldedStrip.STATE, STATE);
        due.is("FULL", FoldedStrip.FULL, FULL);
    }

    private static void newObject() {
        Due due = new Due("promise 1");
        FoldedStrip x = new FoldedStrip();
        due.row("count", Strips.counts(x), "0 0 0 0 0 0 0 0 0 0");
        due.is("leaf(0, 0)", x.leaf(0, 0), UNKNOWN);
        due.is("as(0, 0)", x.as(0, 0), UNKNOWN);
        due.is("hinge(0, 0)", x.hinge(0, 0), UNKNOWN);
        due.is("at(0)", x.at(0), UNKNOWN);
        due.is("may(0, 0)", x.may(0, 0), UNKNOWN);
        due.is("move(0, 0)", x.move(0, 0), UNKNOWN);
        due.is("turn()", x.turn(), STATE);
        due.is("lay(0)", x.lay(0), UNKNOWN);
        due.is("change(0, 0)", x.change(0, 0), UNKNOWN);
        due.is("orders(0)", x.orders(0), STATE);
        due.is("order(0, 0)", x.order(0, 0), UNKNOWN);
        due.is("tops(0, 0)", x.tops(0, 0), UNKNOWN);
        due.is("near(0)", x.near(0), UNKNOWN);
        due.is("far(0)", x.far(0), STATE);
        due.is("trim(0)", x.trim(0), STATE);
        due.is("odds(0, 1, 0)", x.odds(0, 1, 0), UNKNOWN);
        due.is("see(0, 1, true)", x.see(0, 1, true), UNKNOWN);
        due.is("forget()", x.forget(), 0);
        due.is("could()", x.could(), STATE);
        due.is("trial()", x.trial(), STATE);
        due.is("shuffles(1, 0, 0)", x.shuffles(1, 0, 0), STATE);
        due.is("image()", x.image(), STATE);
        due.is("restore()", x.restore(), STATE);
        due.is("blank()", x.blank(), 0);
        due.is("fault()", x.fault(), 0);
        due.is("strip()", x.strip(), STATE);
        due.row("count", Strips.counts(x), "0 0 0 0 0 0 0 0 0 0");
    }

    private static void letter() {
        Due due = new Due("promise 2");
        FoldedStrip x = new FoldedStrip();
        for (int code : new int[] {0, -1, 127, 128, MIN, MAX}) due.is("letter(" + code + ")", x.letter(code), OUTSIDE);
        due.is("count(8)", x.count(8), 0);
        due.is("letter(1)", x.letter(1), 1);
        due.is("letter(126)", x.letter(126), 2);
        for (int many = 3; many <= 9; many++) due.is("letter l", x.letter('l'), many);
        due.is("the tenth", x.letter('l'), FULL);
        due.is("the tenth, outside", x.letter(127), OUTSIDE);
        due.is("count(8)", x.count(8), 9);
        x.blank();
        due.is("after blank()", x.letter('x'), 1);
    }

    private static void blank() {
        Due due = new Due("promise 3");
        FoldedStrip x = new FoldedStrip();
        Strips.write(x, "lxw");
        due.is("blank()", x.blank(), 3);
        due.is("blank()", x.blank(), 0);
        due.is("count(8)", x.count(8), 0);
        due.is("fault()", x.fault(), 0);
        FoldedStrip y = Strips.of("lbw");
        Strips.write(y, "tt");
        due.is("blank()", y.blank(), 2);
        due.is("leaves", y.count(0), 3);
    }

    private static void fault() {
        Due due = new Due("promise 4");
        String[] texts = {"", "l", "lbwct", "lx", "xl", "L", "lxlx", "lllllll", "llllllll", "lllllllll", "lllllllx", "llllllx", "k", "m", "B", " l", "~"};
        int[] faults = {0, 1, 5, 1, 0, 0, 1, 7, 7, 7, 7, 6, 0, 0, 0, 0, 0};
        for (int text = 0; text < texts.length; text++) {
            FoldedStrip x = new FoldedStrip();
            Strips.write(x, texts[text]);
            due.is("fault() of " + texts[text], x.fault(), faults[text]);
            due.is("letters of " + texts[text], x.count(8), texts[text].length());
        }
        for (int code = 1; code <= 126; code++) {
            FoldedStrip x = new FoldedStrip();
            x.letter(code);
            due.is("fault() of code " + code, x.fault(), "lbwct".indexOf((char) code) < 0 ? 0 : 1);
        }
    }

    private static void strip() {
        Due due = new Due("promise 5");
        for (String none : new String[] {"", "l", "t", "lx", "xl", "llllllll", "lllllllll", "LL", "lllllllx"}) {
            FoldedStrip x = Strips.of("cb");
            x.move(0, 1);
            x.image();
            x.see(0, 1, true);
            Strips.write(x, none);
            String before = Strips.state(x);
            due.is("strip() of " + none, x.strip(), STATE);
            due.row("all", Strips.state(x), before);
            due.is("the image is still kept", x.restore(), 1);
        }
        for (String text : new String[] {"ll", "cbwt", "ttttttt"}) {
            FoldedStrip x = new FoldedStrip();
            Strips.write(x, text);
            due.is("strip() of " + text, x.strip(), text.length());
            due.row("lies zigzag", Strips.lie(x), "0123456".substring(0, text.length()));
            due.is("the page", x.count(8), 0);
            due.is("the order", x.orders(2), 0);
        }
        FoldedStrip x = Strips.of("llll");
        x.move(0, 3);
        x.see(0, 1, true);
        x.image();
        Strips.write(x, "wbc");
        due.is("strip() of wbc", x.strip(), 3);
        due.row("count", Strips.counts(x), "3 7 0 0 3 6 0 0 0 2");
        due.row("lies", Strips.lie(x), "012");
        due.is("restore()", x.restore(), STATE);
        due.is("could()", x.could(), 6);
        x.image();
        Strips.write(x, "wbc");
        x.strip();
        due.is("restore() behind the same text read again", x.restore(), STATE);
        due.is("near(5)", x.near(5), 2);
    }

    private static void leaf() {
        Due due = new Due("promise 6");
        FoldedStrip x = Strips.of("lbwct");
        int[] thick = {1, 3, 1, 3, 1};
        int[] content = {1, 1, 1, 0, 0};
        for (int leaf = 0; leaf < 5; leaf++) {
            due.is("kind of " + leaf, x.leaf(leaf, 0), leaf);
            due.is("how thick is " + leaf, x.leaf(leaf, 1), thick[leaf]);
            due.is("place of " + leaf, x.leaf(leaf, 2), leaf);
            due.is("content is " + leaf, x.leaf(leaf, 3), content[leaf]);
        }
        x.turn();
        for (int leaf = 0; leaf < 5; leaf++) due.is("place of " + leaf, x.leaf(leaf, 2), 4 - leaf);
        for (int leaf : new int[] {-1, 5, 6, 7, MIN, MAX}) due.is("leaf " + leaf, x.leaf(leaf, 0), UNKNOWN);
        for (int what : new int[] {-1, 4, MIN, MAX}) due.is("leaf for " + what, x.leaf(0, what), OUTSIDE);
        due.is("leaf(5, 4)", x.leaf(5, 4), UNKNOWN);
        contentOf(due, "ccc", "101");
        contentOf(due, "ttt", "000");
        contentOf(due, "ltl", "111");
        contentOf(due, "lwwl", "1001");
        contentOf(due, "lwtl", "1001");
        contentOf(due, "wlw", "111");
        contentOf(due, "wwlt", "0010");
        contentOf(due, "wlbtcw", "111101");
        contentOf(due, "ww", "00");
        contentOf(due, "cc", "11");
    }

    private static void contentOf(Due due, String text, String want) {
        FoldedStrip x = Strips.of(text);
        StringBuilder got = new StringBuilder();
        for (int leaf = 0; leaf < text.length(); leaf++) got.append(x.leaf(leaf, 3));
        due.row("content in " + text, got.toString(), want);
    }

    private static void as() {
        Due due = new Due("promise 7");
        FoldedStrip x = Strips.of("lbwct");
        String[] such = {"11111", "01010", "00101", "00010", "00001"};
        for (int kind = 0; kind < 5; kind++) {
            for (int leaf = 0; leaf < 5; leaf++) {
                due.is("as(" + leaf + ", " + kind + ")", x.as(leaf, kind), such[kind].charAt(leaf) == '1' ? leaf : NONE);
            }
        }
        for (int leaf : new int[] {-1, 5, MIN, MAX}) due.is("as(" + leaf + ", 0)", x.as(leaf, 0), UNKNOWN);
        for (int kind : new int[] {-1, 5, MIN, MAX}) due.is("as(0, " + kind + ")", x.as(0, kind), OUTSIDE);
        due.is("as(5, 5)", x.as(5, 5), UNKNOWN);
    }

    private static void hinge() {
        Due due = new Due("promise 8");
        FoldedStrip x = Strips.of("lbcl");
        for (int hinge = 0; hinge < 3; hinge++) {
            due.is("side of " + hinge, x.hinge(hinge, 0), hinge % 2);
            due.is("width of " + hinge, x.hinge(hinge, 1), 0);
        }
        x.lay(2);
        due.is("0231, width of 0", x.hinge(0, 1), 4);
        due.is("0231, width of 1", x.hinge(1, 1), 1);
        due.is("0231, width of 2", x.hinge(2, 1), 0);
        x.lay(9);
        due.is("2103, width of 0", x.hinge(0, 1), 0);
        due.is("2103, width of 1", x.hinge(1, 1), 0);
        due.is("2103, width of 2", x.hinge(2, 1), 4);
        for (int hinge : new int[] {-1, 3, 4, MIN, MAX}) due.is("hinge " + hinge, x.hinge(hinge, 0), UNKNOWN);
        for (int what : new int[] {-1, 2, MIN, MAX}) due.is("hinge for " + what, x.hinge(0, what), OUTSIDE);
        due.is("hinge(3, 2)", x.hinge(3, 2), UNKNOWN);
        due.is("the last hinge of seven", Strips.of("lllllll").hinge(5, 0), 1);
        due.is("no hinge of seven", Strips.of("lllllll").hinge(6, 0), UNKNOWN);
    }

    private static void at() {
        Due due = new Due("promise 9");
        FoldedStrip x = Strips.of("llll");
        String[] lies = ORDERS_OF_FOUR.split(" ");
        for (int order = 0; order < lies.length; order++) {
            x.lay(order);
            for (int place = 0; place < 4; place++) {
                due.is("at(" + place + ") in " + order, x.at(place), lies[order].charAt(place) - '0');
            }
        }
        for (int place : new int[] {-1, 4, 7, MIN, MAX}) due.is("at(" + place + ")", x.at(place), UNKNOWN);
    }

    private static void may() {
        Due due = new Due("promise 10");
        FoldedStrip x = Strips.of("llll");
        String[] may = {"1101", "1101", "1011", "1011"};
        String before = Strips.state(x);
        for (int leaf = 0; leaf < 4; leaf++) {
            for (int place = 0; place < 4; place++) {
                due.is("may(" + leaf + ", " + place + ")", x.may(leaf, place), may[leaf].charAt(place) - '0');
            }
        }
        due.row("all", Strips.state(x), before);
        for (int no : new int[] {-1, 4, 7, MIN, MAX}) {
            due.is("may(" + no + ", 0)", x.may(no, 0), UNKNOWN);
            due.is("may(0, " + no + ")", x.may(0, no), UNKNOWN);
        }
        due.is("fit or not", Strips.of("cc").may(0, 1) + Strips.of("tl").may(1, 0) + Strips.of("clc").may(0, 1), 3);
    }

    private static void move() {
        Due due = new Due("promise 11");
        FoldedStrip x = Strips.of("llll");
        due.is("move(0, 3)", x.move(0, 3), 1);
        due.row("lies", Strips.lie(x), "1230");
        due.is("moves", x.count(6), 1);
        String before = Strips.state(x);
        due.is("at its own place", x.move(0, 3), STATE);
        due.is("not folded", x.move(1, 1), STATE);
        for (int no : new int[] {-1, 4, 7, MIN, MAX}) {
            due.is("move(" + no + ", 0)", x.move(no, 0), UNKNOWN);
            due.is("move(0, " + no + ")", x.move(0, no), UNKNOWN);
        }
        due.row("all", Strips.state(x), before);
        due.is("move(2, 2)", x.move(2, 2), 2);
        due.row("lies", Strips.lie(x), "1320");
        due.is("moves", x.count(6), 2);
        FoldedStrip y = Strips.of("tctc");
        due.is("not fit", y.move(3, 0), 1);
        due.row("lies", Strips.lie(y), "3012");
        due.is("back", y.move(3, 3), 0);
        due.row("lies", Strips.lie(y), "0123");
        due.is("up by one", y.move(1, 0), 1);
        due.row("lies", Strips.lie(y), "1023");
    }

    private static void turn() {
        Due due = new Due("promise 12");
        FoldedStrip x = Strips.of("llll");
        x.lay(2);
        due.is("turn()", x.turn(), 1);
        due.row("lies", Strips.lie(x), "1320");
        due.is("turn()", x.turn(), 0);
        due.row("lies", Strips.lie(x), "0231");
        due.is("moves", x.count(6), 0);
        due.is("of seven", Strips.of("lllllll").turn(), 6);
        due.is("of none", new FoldedStrip().turn(), STATE);
    }

    private static void lay() {
        Due due = new Due("promise 13");
        FoldedStrip x = Strips.of("llll");
        due.is("lay(15)", x.lay(15), 0);
        due.row("lies", Strips.lie(x), "3210");
        due.is("lay(6)", x.lay(6), 15);
        due.row("lies", Strips.lie(x), "1230");
        due.is("lay(6)", x.lay(6), 6);
        for (int order : new int[] {-1, 16, 462, MIN, MAX}) due.is("lay(" + order + ")", x.lay(order), UNKNOWN);
        due.row("lies", Strips.lie(x), "1230");
        due.is("moves", x.count(6), 0);
        due.is("the last of seven", Strips.of("lllllll").lay(461), 0);
        due.is("none of seven", Strips.of("lllllll").lay(462), UNKNOWN);
    }

    private static void change() {
        Due due = new Due("promise 14");
        FoldedStrip x = Strips.of("lll");
        for (int kind = 1; kind <= 4; kind++) due.is("change(1, " + kind + ")", x.change(1, kind), kind - 1);
        due.is("to the same", x.change(1, 4), 4);
        due.is("kind", x.leaf(1, 0), 4);
        due.is("fits: 012 021 102 120 201 210 with 1 within", x.orders(1), 2);
        String before = Strips.state(x);
        for (int leaf : new int[] {-1, 3, 7, MIN, MAX}) due.is("change(" + leaf + ", 0)", x.change(leaf, 0), UNKNOWN);
        for (int kind : new int[] {-1, 5, MIN, MAX}) due.is("change(0, " + kind + ")", x.change(0, kind), OUTSIDE);
        due.is("change(3, 5)", x.change(3, 5), UNKNOWN);
        due.row("all", Strips.state(x), before);
        due.is("change(1, 0)", x.change(1, 0), 4);
        due.is("fits", x.orders(1), 6);
        due.is("thick", x.count(1), 3);
        x.change(2, 1);
        due.is("thick", x.count(1), 5);
    }

    private static void orders() {
        Due due = new Due("promise 15");
        int[] many = {2, 6, 16, 50, 144, 462};
        for (int leaves = 2; leaves <= 7; leaves++) {
            FoldedStrip x = Strips.of("lllllll".substring(0, leaves));
            due.is("orders of " + leaves, x.orders(0), many[leaves - 2]);
            due.is("fits of " + leaves, x.orders(1), many[leaves - 2]);
        }
        FoldedStrip x = Strips.of("clll");
        due.is("fits of clll", x.orders(1), 8);
        due.is("orders of clll", x.orders(0), 16);
        due.is("fits of ccll", Strips.of("ccll").orders(1), 4);
        due.is("fits of cccl", Strips.of("cccl").orders(1), 0);
        due.is("fits of tt", Strips.of("tt").orders(1), 0);
        due.is("fits of ww", Strips.of("ww").orders(1), 0);
        due.is("fits of wlw: 012, 210", Strips.of("wlw").orders(1), 2);
        x.lay(12);
        due.is("which", x.orders(2), 12);
        due.is("3012 is not fit", x.orders(3), 0);
        x.lay(11);
        due.is("2310 is fit", x.orders(3), 1);
        for (int what : new int[] {-1, 4, MIN, MAX}) due.is("orders(" + what + ")", x.orders(what), OUTSIDE);
        due.is("no strip", new FoldedStrip().orders(3), STATE);
        due.is("no strip, outside", new FoldedStrip().orders(4), OUTSIDE);
    }

    private static void order() {
        Due due = new Due("promise 16");
        FoldedStrip x = Strips.of("lcbl");
        String[] lies = ORDERS_OF_FOUR.split(" ");
        for (int order = 0; order < lies.length; order++) {
            StringBuilder got = new StringBuilder();
            for (int place = 0; place < 4; place++) got.append(x.order(order, 10 + place));
            due.row("order " + order, got.toString(), lies[order]);
            boolean fit = lies[order].startsWith("1") || lies[order].endsWith("1");
            due.is("fit " + order, x.order(order, 0), fit ? 1 : 0);
            for (int what = 14; what <= 16; what++) due.is("place " + (what - 10), x.order(order, what), NONE);
        }
        due.is("0123, width", x.order(0, 1), 0);
        due.is("0321, width", x.order(3, 1), 4);
        due.is("1023, width", x.order(4, 1), 1);
        due.is("2103, width", x.order(9, 1), 4);
        due.is("2013, width", x.order(8, 1), 4);
        due.is("it lies as before", x.orders(2), 0);
        for (int order : new int[] {-1, 16, MIN, MAX}) due.is("order " + order, x.order(order, 0), UNKNOWN);
        for (int what : new int[] {-1, 2, 9, 17, MIN, MAX}) due.is("order for " + what, x.order(0, what), OUTSIDE);
        due.is("order(16, 2)", x.order(16, 2), UNKNOWN);
        due.is("the last place of seven", Strips.of("lllllll").order(461, 16), 0);
    }

    private static void tops() {
        Due due = new Due("promise 17");
        FoldedStrip x = Strips.of("clll");
        int[] fit = {4, 2, 1, 1};
        for (int leaf = 0; leaf < 4; leaf++) {
            due.is("tops(" + leaf + ", 0)", x.tops(leaf, 0), 4);
            due.is("tops(" + leaf + ", 1)", x.tops(leaf, 1), fit[leaf]);
        }
        for (int leaf : new int[] {-1, 4, MIN, MAX}) due.is("tops(" + leaf + ", 0)", x.tops(leaf, 0), UNKNOWN);
        for (int what : new int[] {-1, 2, MIN, MAX}) due.is("tops(0, " + what + ")", x.tops(0, what), OUTSIDE);
        due.is("tops(4, 2)", x.tops(4, 2), UNKNOWN);
    }

    private static void near() {
        Due due = new Due("promise 18");
        FoldedStrip x = Strips.of("lll");
        int[] fromFirst = {0, 1, 1, 1, 1, 2};
        for (int order = 0; order < 6; order++) due.is("near(" + order + ")", x.near(order), fromFirst[order]);
        x.lay(5);
        int[] fromLast = {2, 1, 1, 1, 1, 0};
        for (int order = 0; order < 6; order++) due.is("near(" + order + ")", x.near(order), fromLast[order]);
        x.move(0, 0);
        due.is("behind a move", x.near(5), 1);
        for (int order : new int[] {-1, 6, MIN, MAX}) due.is("near(" + order + ")", x.near(order), UNKNOWN);
        FoldedStrip y = Strips.of("lllllll");
        due.is("0143265 cannot be come to", y.near(15), NONE);
        y.lay(15);
        due.is("nor back", y.near(0), NONE);
        due.is("to itself", y.near(15), 0);
        Strips.write(y, "llll");
        y.strip();
        due.is("behind another strip", y.near(15), 3);
        Strips.write(y, "bbbb");
        y.strip();
        due.is("behind one of as many leaves", y.near(1), 1);
        FoldedStrip z = Strips.of("lll");
        due.is("of three", z.near(5), 2);
        Strips.write(z, "llll");
        z.strip();
        due.is("of four, behind three in the order of the same number", z.near(15), 3);
        Strips.write(z, "lll");
        z.strip();
        due.is("of three again", z.near(5), 2);
    }

    private static void far() {
        Due due = new Due("promise 19");
        FoldedStrip x = Strips.of("tll");
        due.is("farthest", x.far(0), 2);
        due.is("which", x.far(1), 5);
        due.is("home", x.far(2), 1);
        due.is("which: 102, not 201", x.far(3), 2);
        x.lay(3);
        due.is("farthest", x.far(0), 2);
        due.is("120: which", x.far(1), 1);
        x.lay(4);
        due.is("201 is home", x.far(2), 0);
        due.is("which", x.far(3), 4);
        x.change(1, 4);
        due.is("no home", x.far(2), NONE);
        due.is("which", x.far(3), NONE);
        due.is("farthest", x.far(0), 2);
        FoldedStrip y = Strips.of("ll");
        due.is("01 is home", y.far(2), 0);
        due.is("which", y.far(3), 0);
        due.is("farthest of two", y.far(0), 1);
        due.is("which", y.far(1), 1);
        y.turn();
        due.is("which", y.far(1), 0);
        for (int what : new int[] {-1, 4, MIN, MAX}) due.is("far(" + what + ")", x.far(what), OUTSIDE);
        due.is("no strip", new FoldedStrip().far(3), STATE);
        due.is("no strip, outside", new FoldedStrip().far(4), OUTSIDE);
    }

    /** Some orders of seven leaves cannot be come to from others: then a home there does not count. */
    private static void homeOutOfReach() {
        Due due = new Due("promise 19");
        FoldedStrip x = Strips.of("clcllll");
        x.lay(15);
        int fits = 0;
        int reached = 0;
        for (int order = 0; order < 462; order++) {
            if (x.order(order, 0) == 0) continue;
            fits++;
            if (x.near(order) != NONE) reached++;
        }
        due.is("there are fit ones", fits > 0 ? 1 : 0, 1);
        due.is("but none that one comes to", reached, 0);
        due.is("home", x.far(2), NONE);
        due.is("which", x.far(3), NONE);
        due.is("trim minds no way", x.order(x.trim(0), 0), 1);
        FoldedStrip y = Strips.of("clcllll");
        y.lay(15);
        int most = 0;
        int which = NONE;
        for (int order = 0; order < 462; order++) {
            int near = y.near(order);
            if (near <= most) continue;
            most = near;
            which = order;
        }
        due.is("farthest, of those that one comes to", y.far(0), most);
        due.is("which", y.far(1), which);
    }

    private static void trim() {
        Due due = new Due("promise 20");
        trimOf(due, "clll", 0, 0);
        trimOf(due, "lcll", 4, 1);
        trimOf(due, "bcll", 2, 2);
        trimOf(due, "ccll", 2, 2);
        trimOf(due, "ll", 0, 0);
        trimOf(due, "tlt", NONE, NONE);
        trimOf(due, "wwl", 1, 1);
        trimOf(due, "wwb", 1, 3);
        FoldedStrip x = Strips.of("lcll");
        x.lay(9);
        due.is("wherever it lies", x.trim(0), 4);
        for (int what : new int[] {-1, 2, MIN, MAX}) due.is("trim(" + what + ")", x.trim(what), OUTSIDE);
        due.is("no strip", new FoldedStrip().trim(1), STATE);
        due.is("no strip, outside", new FoldedStrip().trim(2), OUTSIDE);
    }

    private static void trimOf(Due due, String text, int which, int wide) {
        FoldedStrip x = Strips.of(text);
        due.is("trim(0) of " + text, x.trim(0), which);
        due.is("trim(1) of " + text, x.trim(1), wide);
    }

    // What is fit is so when turned, too: where any is, the odds are even.
    private static void odds() {
        Due due = new Due("promise 21");
        for (String text : new String[] {"clll", "lwlwb", "ltlc"}) {
            FoldedStrip x = Strips.of(text);
            for (int one = 0; one < text.length(); one++) {
                for (int other = 0; other < text.length(); other++) {
                    due.is("odds of " + one + " above " + other, x.odds(one, other, 0), one == other ? UNKNOWN : 1);
                    due.is("odds of " + one + " below " + other, x.odds(one, other, 1), one == other ? UNKNOWN : 2);
                }
            }
        }
        FoldedStrip none = Strips.of("tlt");
        due.is("none is fit, above", none.odds(0, 1, 0), 0);
        due.is("none is fit, below", none.odds(0, 1, 1), 1);
        due.is("none is fit, outside", none.odds(0, 1, 2), OUTSIDE);
        FoldedStrip x = Strips.of("lll");
        for (int no : new int[] {-1, 3, 7, MIN, MAX}) {
            due.is("odds(" + no + ", 0, 0)", x.odds(no, 0, 0), UNKNOWN);
            due.is("odds(0, " + no + ", 0)", x.odds(0, no, 0), UNKNOWN);
        }
        for (int what : new int[] {-1, 2, MIN, MAX}) due.is("odds for " + what, x.odds(0, 1, what), OUTSIDE);
        due.is("odds(1, 1, 2)", x.odds(1, 1, 2), UNKNOWN);
    }

    private static void see() {
        Due due = new Due("promise 22");
        FoldedStrip x = Strips.of("lll");
        for (int many = 1; many <= 6; many++) due.is("see", x.see(many % 3, 1 + many % 3, many % 2 == 0), many);
        String before = Strips.state(x);
        due.is("the seventh", x.see(0, 1, true), FULL);
        due.is("the seventh, outside", x.see(0, 4, true), OUTSIDE);
        due.is("the seventh, unknown", x.see(3, 4, true), UNKNOWN);
        due.row("all", Strips.state(x), before);
        FoldedStrip y = Strips.of("lll");
        for (int leaf : new int[] {-1, 3, 7, MIN, MAX}) due.is("see(" + leaf + ")", y.see(leaf, 1, true), UNKNOWN);
        for (int deep : new int[] {0, -1, 4, 8, MIN, MAX}) due.is("see so deep " + deep, y.see(0, deep, true), OUTSIDE);
        due.is("see(3, 0)", y.see(3, 0, false), UNKNOWN);
        due.is("nothing is seen", y.count(7), 0);
        due.is("through all", y.see(2, 3, true), 1);
    }

    private static void forget() {
        Due due = new Due("promise 23");
        FoldedStrip x = Strips.of("lll");
        due.is("forget()", x.forget(), 0);
        x.see(0, 1, true);
        x.see(1, 2, true);
        due.is("forget()", x.forget(), 2);
        due.is("forget()", x.forget(), 0);
        due.is("could()", x.could(), 6);
        due.is("see", x.see(0, 1, false), 1);
        due.is("could()", x.could(), 4);
    }

    private static void could() {
        Due due = new Due("promise 24");
        FoldedStrip x = Strips.of("tct");
        due.is("could(), fit or not", x.could(), 6);
        x.see(0, 1, true);
        due.is("0 on top", x.could(), 2);
        x.see(1, 2, false);
        due.is("021", x.could(), 1);
        x.see(2, 3, true);
        due.is("through all", x.could(), 1);
        x.see(2, 3, false);
        due.is("not through all", x.could(), 0);
        x.forget();
        x.see(0, 2, true);
        due.is("0 not at the bottom", x.could(), 4);
        x.see(0, 1, false);
        due.is("0 in the middle", x.could(), 2);
        due.is("it lies as it lay", x.orders(2), 0);
        due.is("no strip", new FoldedStrip().could(), STATE);
    }

    private static void trial() {
        Due due = new Due("promise 25");
        FoldedStrip x = Strips.of("lll");
        due.is("of six, four at worst at each depth below three", x.trial(), 10);
        x.see(0, 1, true);
        due.is("of 012, 021 one by 1, two deep", x.trial(), 21);
        x.see(1, 2, true);
        due.is("of one, one, by any", x.trial(), 10);
        x.see(1, 2, false);
        due.is("of none", x.trial(), NONE);
        due.is("of two", Strips.of("ll").trial(), 10);
        FoldedStrip y = Strips.of("llll");
        due.is("of 16, eight, two deep", y.trial(), 20);
        y.see(3, 1, true);
        due.is("of 3012, 3102, 3201, 3210 two by 2, two deep", y.trial(), 22);
        FoldedStrip z = Strips.of("lllllll");
        due.is("of 462, 264 at worst, by 0, three deep", z.trial(), 30);
        for (int leaf = 0; leaf < 6; leaf++) z.see(leaf, leaf + 1, true);
        due.is("of the zigzag alone", z.could() * 1000 + z.trial(), 1010);
        due.is("no strip", new FoldedStrip().trial(), STATE);
    }

    // The draws by the seed 1 are those of a well-known generator: 16838, 5758, 10113, 17515, 31051, 5627,
    // 23010, 7419, 16212, 4086; their rests by three, a leaf and a place each: 2 1, 0 1, 1 2, 0 0, 0 0.
    private static void shuffles() {
        Due due = new Due("promise 26");
        FoldedStrip x = Strips.of("lll");
        int[] done = {1, 2, 2, 3, 3};
        int[] order = {1, 4, 4, 1, 1};
        String before = Strips.state(x);
        for (int times = 1; times <= 5; times++) {
            due.is("how many of " + times, x.shuffles(times, 1, 0), done[times - 1]);
            due.is("which after " + times, x.shuffles(times, 1, 1), order[times - 1]);
        }
        due.is("the seed then", x.shuffles(1, 1, 2), 377401575);
        due.is("the seed after two", x.shuffles(2, 1, 2), 1147902781);
        due.is("a seed of 0", x.shuffles(1, 0, 2) >= 0 ? 1 : 0, 1);
        due.is("the highest seed", x.shuffles(99, MAX, 0) >= 0 ? 1 : 0, 1);
        due.row("all", Strips.state(x), before);
        for (int times : new int[] {0, -1, 100, MIN, MAX}) due.is("so many times " + times, x.shuffles(times, 1, 0), OUTSIDE);
        for (int seed : new int[] {-1, MIN}) due.is("a seed of " + seed, x.shuffles(1, seed, 0), OUTSIDE);
        for (int what : new int[] {-1, 3, MIN, MAX}) due.is("shuffles for " + what, x.shuffles(1, 1, what), OUTSIDE);
        shufflesOfSeven(due, 0);
        shufflesOfSeven(due, 123456789);
        shufflesOfSeven(due, MAX);
        due.is("no strip", new FoldedStrip().shuffles(99, 0, 2), STATE);
        due.is("no strip, outside", new FoldedStrip().shuffles(100, 0, 2), OUTSIDE);
    }

    /** What would be, against the same moves done one by one. */
    private static void shufflesOfSeven(Due due, int seed) {
        FoldedStrip x = Strips.of("lllllll");
        FoldedStrip done = Strips.of("lllllll");
        long next = seed;
        for (int times = 1; times <= 99; times++) {
            next = (1103515245L * next + 12345) % (1L << 31);
            int leaf = (int) (next / 65536 % 7);
            next = (1103515245L * next + 12345) % (1L << 31);
            int place = (int) (next / 65536 % 7);
            done.move(leaf, place);
            due.is("how many of " + times + " by " + seed, x.shuffles(times, seed, 0), done.count(6));
            due.is("which after " + times + " by " + seed, x.shuffles(times, seed, 1), done.orders(2));
            due.is("the seed after " + times + " by " + seed, x.shuffles(times, seed, 2), next);
        }
        due.is("it lies as it lay", x.orders(2) + x.count(6), 0);
    }

    private static void image() {
        Due due = new Due("promise 27");
        FoldedStrip x = Strips.of("llll");
        due.is("image()", x.image(), 0);
        x.move(0, 3);
        due.is("image(), the latest", x.image(), 1);
        x.move(0, 0);
        x.lay(15);
        due.is("restore()", x.restore(), 1);
        due.row("lies", Strips.lie(x), "1230");
        due.is("no strip", new FoldedStrip().image(), STATE);
    }

    private static void restore() {
        Due due = new Due("promise 28");
        FoldedStrip x = Strips.of("cwlt");
        due.is("none was kept", x.restore(), STATE);
        x.move(0, 3);
        x.see(1, 2, false);
        x.see(2, 4, true);
        String before = Strips.state(x);
        x.image();
        x.move(0, 0);
        x.change(0, 4);
        x.change(3, 0);
        x.forget();
        x.see(0, 1, true);
        due.is("restore()", x.restore(), 1);
        due.row("all", Strips.state(x), before);
        x.turn();
        x.forget();
        due.is("restore(), again", x.restore(), 1);
        due.row("all", Strips.state(x), before);
        due.is("seen", x.see(0, 1, true), 3);
        Strips.write(x, "lx");
        due.is("restore() minds no page", x.restore(), 1);
        due.is("letters", x.count(8), 2);
        due.is("strip() is refused", x.strip(), STATE);
        due.is("restore() then", x.restore(), 1);
        x.blank();
        Strips.write(x, "cwlt");
        x.strip();
        due.is("another strip since", x.restore(), STATE);
        due.row("count", Strips.counts(x), "4 6 0 0 3 8 0 0 0 2");
        due.is("no strip", new FoldedStrip().restore(), STATE);
    }

    private static void count() {
        Due due = new Due("promise 29");
        FoldedStrip x = Strips.of("lwbt");
        Strips.write(x, "xyz");
        due.row("count in 0123", Strips.counts(x), "4 6 0 0 3 8 0 0 3 1");
        x.move(1, 3);
        x.see(0, 1, true);
        // 0231: hinge 0 has 2 and 3 between, hinge 1 has 3; 1 and 3 stick together.
        due.row("count in 0231", Strips.counts(x), "4 6 4 2 2 " + moves("0231") + " 1 1 3 1");
        for (int what : new int[] {-1, 10, MIN, MAX}) due.is("count(" + what + ")", x.count(what), OUTSIDE);
        due.row("count of none", Strips.counts(new FoldedStrip()), "0 0 0 0 0 0 0 0 0 0");
        due.is("moves of two", Strips.of("ll").count(5), 2);
        due.is("moves of three", Strips.of("lll").count(5), 6);
    }

    /** How many moves there are of four leaves, by the list of their orders. */
    private static int moves(String lie) {
        int moves = 0;
        for (int from = 0; from < 4; from++) {
            for (int to = 0; to < 4; to++) {
                StringBuilder after = new StringBuilder(lie).deleteCharAt(from).insert(to, lie.charAt(from));
                if (from != to && (" " + ORDERS_OF_FOUR + " ").contains(" " + after + " ")) moves++;
            }
        }
        return moves;
    }

    private static void digest() {
        Due due = new Due("promise 30");
        FoldedStrip x = new FoldedStrip();
        due.is("of none", x.digest(), hash());
        x.letter('x');
        x.letter(126);
        due.is("of a page", x.digest(), hash('x', 126, 0, 0, 0, 0, 0, 0, 0, 0, 2, 0));
        x.blank();
        Strips.write(x, "cl");
        x.strip();
        x.see(0, 1, true);
        x.move(0, 1);
        x.letter('t');
        due.is("of cl, lying 10", x.digest(), hash(
                3, 3, 1, 1, 1, 1,
                0, 1, 0, 1, 1, 1,
                0, 0,
                2, 2, 1, 1, 0, 0, 1, 2, 1,
                't',
                2, 4, 0, 0, 2, 2, 1, 1, 1, 1));
        FoldedStrip y = Strips.of("tlt");
        y.lay(1);
        due.is("of tlt, lying 021", y.digest(), hash(
                4, 1, 0, 0, 2, 0,
                0, 1, 2, 1, 2, 0,
                4, 1, 1, 0, 2, 0,
                0, 1, 1, 0,
                6, 0, 1, 0, -1, -1, 0, 1, 6,
                3, 3, 1, 1, 1, 6, 0, 0, 0, 1));
    }

    private static long hash(int... numbers) {
        int[] told = numbers.length == 0 ? new int[10] : numbers;
        long sum = 1319;
        for (int number : told) sum = 31 * sum + number;
        return sum;
    }
}
