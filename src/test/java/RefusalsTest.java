import java.util.ArrayList;
import java.util.List;
import java.util.function.Supplier;
import java.util.function.ToIntFunction;

/**
 * Every refusal of every call, in each of the states below: of several the first as told by the call, and nothing is
 * changed by it. An object that was refused a call is held against a twin that was not asked, by all that becomes of both.
 */
public final class RefusalsTest {
    private static final int UNKNOWN = Strips.UNKNOWN, OUTSIDE = Strips.OUTSIDE, STATE = Strips.STATE;
    private static final int FULL = Strips.FULL, MIN = Strips.MIN, MAX = Strips.MAX;

    private record Refusal(String told, ToIntFunction<FoldedStrip> call, int want) { }

    private static final List<Refusal> REFUSALS = new ArrayList<>();
    private static Due first;
    private static Due nothing;

    public static void main(String[] args) {
        first = Doc.says("Terms", "Refusals, of several the first as told by each call");
        nothing = Doc.says("Terms", "they change nothing");
        inState("no strip", 0, FoldedStrip::new);
        inState("no strip, a full page", 0, RefusalsTest::fullPage);
        inState("two leaves", 2, () -> Strips.of("ll"));
        inState("two leaves, in use", 2, () -> inUse("cl", "x"));
        inState("seven leaves", 7, () -> Strips.of("clwlbtl"));
        inState("seven leaves, in use", 7, () -> inUse("clwlbtl", "l"));
        inState("seven leaves, all full", 7, RefusalsTest::allFull);
        inState("an image, and another strip since", 2, RefusalsTest::anotherSince);
        asksChangeNothing();
        Due.finish();
    }

    private static FoldedStrip fullPage() {
        FoldedStrip x = new FoldedStrip();
        Strips.write(x, "lbwctlbwc");
        return x;
    }

    /** Moved, seen, changed, and otherwise again since the image. */
    private static FoldedStrip inUse(String text, String page) {
        FoldedStrip x = Strips.of(text);
        x.move(0, 1);
        x.see(1, 1, false);
        x.image();
        x.turn();
        x.change(1, 2);
        x.see(0, 2, true);
        Strips.write(x, page);
        return x;
    }

    private static FoldedStrip allFull() {
        FoldedStrip x = inUse("clwlbtl", "lbwctlbwc");
        for (int many = 2; many < 6; many++) x.see(many, 5, many % 2 == 0);
        return x;
    }

    private static FoldedStrip anotherSince() {
        FoldedStrip x = inUse("clwlbtl", "wt");
        x.strip();
        return x;
    }

    private static void inState(String state, int leaves, Supplier<FoldedStrip> maker) {
        FoldedStrip twin = maker.get();
        REFUSALS.clear();
        ofThePage(twin.count(8));
        ofNumbers(leaves);
        ofNumbersAndWhat(leaves);
        ofWhatAlone(leaves);
        ofMoves(Strips.lie(twin));
        ofSeen(leaves, twin.count(7) == 6);
        if (leaves == 0) ofNoStrip();
        if (maker.get().restore() == STATE) add("restore()", x -> x.restore(), STATE);
        String fate = Strips.fate(twin);
        for (Refusal refusal : REFUSALS) {
            FoldedStrip x = maker.get();
            first.is(state + ": " + refusal.told, refusal.call.applyAsInt(x), refusal.want);
            first.is(state + ": " + refusal.told + ", again", refusal.call.applyAsInt(x), refusal.want);
            nothing.row(state + ": " + refusal.told, Strips.fate(x), fate);
        }
    }

    private static void add(String told, ToIntFunction<FoldedStrip> call, int want) {
        REFUSALS.add(new Refusal(told, call, want));
    }

    private static void ofThePage(int letters) {
        for (int code : new int[] {MIN, -1, 0, 127, 128, MAX}) add("letter(" + code + ")", x -> x.letter(code), OUTSIDE);
        if (letters == 9) {
            for (int code : new int[] {1, 'l', 126}) add("letter(" + code + ")", x -> x.letter(code), FULL);
        }
        add("strip()", x -> x.strip(), STATE);
    }

    /** The numbers that name nothing, right at the bound and far from it. */
    private static int[] beyond(int many) {
        return new int[] {MIN, -1, many, many + 1, MAX};
    }

    private static void ofNumbers(int leaves) {
        for (int no : beyond(leaves)) {
            add("at(" + no + ")", x -> x.at(no), UNKNOWN);
            add("may(" + no + ", 0)", x -> x.may(no, 0), UNKNOWN);
            add("may(0, " + no + ")", x -> x.may(0, no), UNKNOWN);
            add("move(" + no + ", 0)", x -> x.move(no, 0), UNKNOWN);
            add("move(0, " + no + ")", x -> x.move(0, no), UNKNOWN);
        }
        for (int no : beyond(Strips.ORDERS_BY_LEAVES[leaves])) {
            add("lay(" + no + ")", x -> x.lay(no), UNKNOWN);
            add("near(" + no + ")", x -> x.near(no), UNKNOWN);
        }
    }

    /** UNKNOWN comes first, whatever is asked of it; a number that names something leaves OUTSIDE. */
    private static void ofNumbersAndWhat(int leaves) {
        for (int no : beyond(leaves)) {
            for (int what : new int[] {0, -1, 5}) {
                add("leaf(" + no + ", " + what + ")", x -> x.leaf(no, what), UNKNOWN);
                add("as(" + no + ", " + what + ")", x -> x.as(no, what), UNKNOWN);
                add("change(" + no + ", " + what + ")", x -> x.change(no, what), UNKNOWN);
                add("tops(" + no + ", " + what + ")", x -> x.tops(no, what), UNKNOWN);
                add("odds(" + no + ", 0, " + what + ")", x -> x.odds(no, 0, what), UNKNOWN);
                add("odds(1, " + no + ", " + what + ")", x -> x.odds(1, no, what), UNKNOWN);
                add("odds(1, 1, " + what + ")", x -> x.odds(1, 1, what), UNKNOWN);
            }
        }
        for (int no : new int[] {MIN, -1, Math.max(0, leaves - 1), leaves, MAX}) {
            for (int what : new int[] {0, -1, 2}) add("hinge(" + no + ", " + what + ")", x -> x.hinge(no, what), UNKNOWN);
        }
        for (int no : beyond(Strips.ORDERS_BY_LEAVES[leaves])) {
            for (int what : new int[] {0, 10, 16, -1, 2, 9, 17}) add("order(" + no + ", " + what + ")", x -> x.order(no, what), UNKNOWN);
        }
        if (leaves == 0) return;
        for (int what : beyond(4)) add("leaf(0, " + what + ")", x -> x.leaf(0, what), OUTSIDE);
        for (int kind : beyond(5)) {
            add("as(1, " + kind + ")", x -> x.as(1, kind), OUTSIDE);
            add("change(1, " + kind + ")", x -> x.change(1, kind), OUTSIDE);
        }
        for (int what : beyond(2)) {
            add("hinge(0, " + what + ")", x -> x.hinge(0, what), OUTSIDE);
            add("tops(0, " + what + ")", x -> x.tops(0, what), OUTSIDE);
            add("odds(1, 0, " + what + ")", x -> x.odds(1, 0, what), OUTSIDE);
        }
        for (int what : new int[] {MIN, -1, 2, 9, 17, MAX}) add("order(1, " + what + ")", x -> x.order(1, what), OUTSIDE);
    }

    /** OUTSIDE comes first here, with a strip or without one. */
    private static void ofWhatAlone(int leaves) {
        for (int what : beyond(4)) {
            add("orders(" + what + ")", x -> x.orders(what), OUTSIDE);
            add("far(" + what + ")", x -> x.far(what), OUTSIDE);
        }
        for (int what : beyond(2)) add("trim(" + what + ")", x -> x.trim(what), OUTSIDE);
        for (int what : beyond(3)) add("shuffles(1, 0, " + what + ")", x -> x.shuffles(1, 0, what), OUTSIDE);
        for (int times : new int[] {MIN, -1, 0, 100, MAX}) add("shuffles(" + times + ", 0, 0)", x -> x.shuffles(times, 0, 0), OUTSIDE);
        for (int seed : new int[] {MIN, -1}) add("shuffles(1, " + seed + ", 0)", x -> x.shuffles(1, seed, 0), OUTSIDE);
        for (int what : beyond(10)) add("count(" + what + ")", x -> x.count(what), OUTSIDE);
    }

    private static void ofMoves(String lie) {
        for (int from = 0; from < lie.length(); from++) {
            for (int to = 0; to < lie.length(); to++) {
                StringBuilder after = new StringBuilder(lie).deleteCharAt(from).insert(to, lie.charAt(from));
                if (from != to && Strips.isFolded(after.toString())) continue;
                int leaf = lie.charAt(from) - '0';
                int place = to;
                add("move(" + leaf + ", " + place + ")", x -> x.move(leaf, place), STATE);
            }
        }
    }

    private static void ofSeen(int leaves, boolean full) {
        for (int leaf : beyond(leaves)) {
            for (int deep : new int[] {1, 0, leaves + 1}) add("see(" + leaf + ", " + deep + ")", x -> x.see(leaf, deep, true), UNKNOWN);
        }
        if (leaves == 0) return;
        for (int deep : new int[] {MIN, -1, 0, leaves + 1, MAX}) add("see(0, " + deep + ")", x -> x.see(0, deep, false), OUTSIDE);
        if (!full) return;
        add("see(0, 1)", x -> x.see(0, 1, true), FULL);
        add("see(" + (leaves - 1) + ", " + leaves + ")", x -> x.see(leaves - 1, leaves, false), FULL);
    }

    private static void ofNoStrip() {
        add("turn()", x -> x.turn(), STATE);
        for (int what = 0; what <= 3; what++) {
            int asked = what;
            add("orders(" + what + ")", x -> x.orders(asked), STATE);
            add("far(" + what + ")", x -> x.far(asked), STATE);
        }
        add("trim(0)", x -> x.trim(0), STATE);
        add("trim(1)", x -> x.trim(1), STATE);
        add("could()", x -> x.could(), STATE);
        add("trial()", x -> x.trial(), STATE);
        add("shuffles(1, 0, 0)", x -> x.shuffles(1, 0, 0), STATE);
        add("shuffles(99, MAX, 2)", x -> x.shuffles(99, MAX, 2), STATE);
        add("image()", x -> x.image(), STATE);
    }

    /** What only asks changes nothing, either: all of it twice over, against a twin that was asked once. */
    private static void asksChangeNothing() {
        Due due = Doc.says("Not promised", "Nothing is promised beyond the answers and state changes described above");
        List<Supplier<FoldedStrip>> makers = List.of(FoldedStrip::new, RefusalsTest::fullPage, () -> Strips.of("ll"),
                () -> inUse("cl", "x"), () -> inUse("wlb", "lbw"));
        for (Supplier<FoldedStrip> maker : makers) {
            FoldedStrip x = maker.get();
            Strips.asked(x);
            due.row("asked before", Strips.fate(x), Strips.fate(maker.get()));
        }
    }
}
