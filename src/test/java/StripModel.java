import java.util.ArrayDeque;
import java.util.ArrayList;
import java.util.Collections;
import java.util.HashMap;
import java.util.LinkedHashMap;
import java.util.List;
import java.util.Map;

/**
 * The document once more, as slowly and as literally as it can be said: orders are lists, folded ones are
 * found among all permutations by the words of CROSS, moves are tried one by one. Shares nothing with the class.
 */
final class StripModel {
    static final int NONE = -1, UNKNOWN = -101, OUTSIDE = -102, STATE = -103, FULL = -104;
    private static final Map<Integer, List<List<Integer>>> FOLDED = new HashMap<>();

    private record Sight(int leaf, int deep, boolean through) { }

    private record Kept(String kinds, List<Integer> lie, int moves, List<Sight> seen) { }

    private final StringBuilder page = new StringBuilder();
    private String kinds = "";
    private List<Integer> lie = new ArrayList<>();
    private int moves = 0;
    private List<Sight> seen = new ArrayList<>();
    private Kept kept = null;
    private int read = 0;

    // ---- words of the document

    static boolean isFolded(List<Integer> order) {
        int hinges = order.size() - 1;
        for (int one = 0; one < hinges; one++) {
            for (int other = 0; other < hinges; other++) {
                if (one != other && one % 2 == other % 2 && cross(order, one, other)) return false;
            }
        }
        return true;
    }

    private static boolean cross(List<Integer> order, int one, int other) {
        int top = Math.min(order.indexOf(one), order.indexOf(one + 1));
        int bottom = Math.max(order.indexOf(one), order.indexOf(one + 1));
        int between = 0;
        for (int leaf = other; leaf <= other + 1; leaf++) {
            int place = order.indexOf(leaf);
            if (place > top && place < bottom) between++;
        }
        return between == 1;
    }

    static List<List<Integer>> foldedOrders(int leaves) {
        return FOLDED.computeIfAbsent(leaves, many -> {
            List<List<Integer>> all = new ArrayList<>();
            permute(many, new ArrayList<>(), all);
            all.removeIf(order -> !isFolded(order));
            return all;
        });
    }

    private static void permute(int leaves, List<Integer> begun, List<List<Integer>> all) {
        if (begun.size() == leaves) all.add(new ArrayList<>(begun));
        for (Integer leaf = 0; leaf < leaves; leaf++) {
            if (begun.contains(leaf)) continue;
            begun.add(leaf);
            permute(leaves, begun, all);
            begun.remove(leaf);
        }
    }

    private boolean isWaxed(int leaf) {
        return kinds.charAt(leaf) == 'w' || kinds.charAt(leaf) == 't';
    }

    private int thick(int leaf) {
        return kinds.charAt(leaf) == 'b' || kinds.charAt(leaf) == 'c' ? 3 : 1;
    }

    private boolean isContent(List<Integer> order, int leaf) {
        int place = order.indexOf(leaf);
        boolean outside = leaf == order.get(0) || leaf == order.get(order.size() - 1);
        if (kinds.charAt(leaf) == 'c' && !outside) return false;
        if (kinds.charAt(leaf) == 't' && outside) return false;
        for (int other = 0; other < order.size(); other++) {
            boolean rightUpon = Math.abs(order.indexOf(other) - place) == 1;
            if (rightUpon && isWaxed(leaf) && isWaxed(other)) return false;
        }
        return true;
    }

    private boolean isFit(List<Integer> order) {
        return order.stream().allMatch(leaf -> isContent(order, leaf));
    }

    private int width(List<Integer> order, int hinge) {
        int one = order.indexOf(hinge);
        int other = order.indexOf(hinge + 1);
        return order.subList(Math.min(one, other) + 1, Math.max(one, other)).stream().mapToInt(this::thick).sum();
    }

    private int widest(List<Integer> order) {
        int most = 0;
        for (int hinge = 0; hinge < order.size() - 1; hinge++) most = Math.max(most, width(order, hinge));
        return most;
    }

    private static List<Integer> put(List<Integer> order, int leaf, int place) {
        List<Integer> after = new ArrayList<>(order);
        after.remove(Integer.valueOf(leaf));
        after.add(place, leaf);
        return after;
    }

    private static boolean isMove(List<Integer> order, int leaf, int place) {
        return order.get(place) != leaf && isFolded(put(order, leaf, place));
    }

    private Map<List<Integer>, Integer> distances() {
        Map<List<Integer>, Integer> far = new LinkedHashMap<>();
        ArrayDeque<List<Integer>> open = new ArrayDeque<>();
        far.put(lie, 0);
        open.add(lie);
        while (!open.isEmpty()) {
            List<Integer> order = open.remove();
            for (int leaf = 0; leaf < order.size(); leaf++) {
                for (int place = 0; place < order.size(); place++) {
                    List<Integer> after = put(order, leaf, place);
                    if (far.containsKey(after) || !isMove(order, leaf, place)) continue;
                    far.put(after, far.get(order) + 1);
                    open.add(after);
                }
            }
        }
        return far;
    }

    private List<List<Integer>> all() {
        return foldedOrders(kinds.length());
    }

    private List<List<Integer>> possible() {
        List<List<Integer>> left = new ArrayList<>(all());
        for (Sight sight : seen) {
            left.removeIf(order -> order.subList(0, sight.deep).contains(sight.leaf) != sight.through);
        }
        return left;
    }

    private boolean noLeaf(int number) {
        return number < 0 || number >= kinds.length();
    }

    private boolean noOrder(int number) {
        return kinds.isEmpty() || number < 0 || number >= all().size();
    }

    private static int one(boolean yes) {
        return yes ? 1 : 0;
    }

    // ---- the calls

    int letter(int code) {
        if (code < 1 || code > 126) return OUTSIDE;
        if (page.length() == 9) return FULL;
        page.append((char) code);
        return page.length();
    }

    int blank() {
        int had = page.length();
        page.setLength(0);
        return had;
    }

    int fault() {
        for (int end = 1; end <= page.length(); end++) {
            if (!page.substring(0, end).matches("[lbwct]{1,7}")) return end - 1;
        }
        return page.length();
    }

    int strip() {
        if (!page.toString().matches("[lbwct]{2,7}")) return STATE;
        kinds = page.toString();
        page.setLength(0);
        lie = new ArrayList<>();
        for (int leaf = 0; leaf < kinds.length(); leaf++) lie.add(leaf);
        moves = 0;
        seen = new ArrayList<>();
        kept = null;
        read++;
        return kinds.length();
    }

    int leaf(int leaf, int what) {
        if (noLeaf(leaf)) return UNKNOWN;
        if (what == 0) return "lbwct".indexOf(kinds.charAt(leaf));
        if (what == 1) return thick(leaf);
        if (what == 2) return lie.indexOf(leaf);
        if (what == 3) return one(isContent(lie, leaf));
        return OUTSIDE;
    }

    int as(int leaf, int kind) {
        if (noLeaf(leaf)) return UNKNOWN;
        if (kind < 0 || kind > 4) return OUTSIDE;
        String such = List.of("lbwct", "bc", "wt", "c", "t").get(kind);
        return such.indexOf(kinds.charAt(leaf)) >= 0 ? leaf : NONE;
    }

    int hinge(int hinge, int what) {
        if (hinge < 0 || hinge > kinds.length() - 2) return UNKNOWN;
        if (what < 0 || what > 1) return OUTSIDE;
        return what == 0 ? hinge % 2 : width(lie, hinge);
    }

    int at(int place) {
        return noLeaf(place) ? UNKNOWN : lie.get(place);
    }

    int may(int leaf, int place) {
        if (noLeaf(leaf) || noLeaf(place)) return UNKNOWN;
        return one(isFolded(put(lie, leaf, place)));
    }

    int move(int leaf, int place) {
        if (noLeaf(leaf) || noLeaf(place)) return UNKNOWN;
        if (!isMove(lie, leaf, place)) return STATE;
        if (moves == 999) return FULL;
        lie = put(lie, leaf, place);
        moves++;
        return count(3);
    }

    int turn() {
        if (kinds.isEmpty()) return STATE;
        lie = new ArrayList<>(lie);
        Collections.reverse(lie);
        return lie.get(0);
    }

    int lay(int order) {
        if (noOrder(order)) return UNKNOWN;
        int was = all().indexOf(lie);
        lie = all().get(order);
        return was;
    }

    int change(int leaf, int kind) {
        if (noLeaf(leaf)) return UNKNOWN;
        if (kind < 0 || kind > 4) return OUTSIDE;
        int was = leaf(leaf, 0);
        kinds = kinds.substring(0, leaf) + "lbwct".charAt(kind) + kinds.substring(leaf + 1);
        return was;
    }

    int orders(int what) {
        if (what < 0 || what > 3) return OUTSIDE;
        if (kinds.isEmpty()) return STATE;
        if (what == 0) return all().size();
        if (what == 1) return (int) all().stream().filter(this::isFit).count();
        return what == 2 ? all().indexOf(lie) : one(isFit(lie));
    }

    int order(int order, int what) {
        if (noOrder(order)) return UNKNOWN;
        if (what == 0) return one(isFit(all().get(order)));
        if (what == 1) return widest(all().get(order));
        if (what < 10 || what > 16) return OUTSIDE;
        return what - 10 < kinds.length() ? all().get(order).get(what - 10) : NONE;
    }

    int tops(int leaf, int what) {
        if (noLeaf(leaf)) return UNKNOWN;
        if (what < 0 || what > 1) return OUTSIDE;
        return (int) all().stream().filter(order -> order.get(0) == leaf && (what == 0 || isFit(order))).count();
    }

    int near(int order) {
        if (noOrder(order)) return UNKNOWN;
        return distances().getOrDefault(all().get(order), NONE);
    }

    /** What near() tells for each order, from one search. */
    int[] nearToEach() {
        Map<List<Integer>, Integer> far = distances();
        return all().stream().mapToInt(order -> far.getOrDefault(order, NONE)).toArray();
    }

    int far(int what) {
        if (what < 0 || what > 3) return OUTSIDE;
        if (kinds.isEmpty()) return STATE;
        Map<List<Integer>, Integer> far = distances();
        List<List<Integer>> reached = new ArrayList<>(all());
        reached.removeIf(order -> !far.containsKey(order) || (what >= 2 && !isFit(order)));
        if (reached.isEmpty()) return NONE;
        int bound = what < 2
                ? reached.stream().mapToInt(far::get).max().getAsInt()
                : reached.stream().mapToInt(far::get).min().getAsInt();
        if (what % 2 == 0) return bound;
        reached.removeIf(order -> far.get(order) != bound);
        return all().indexOf(reached.get(0));
    }

    int trim(int what) {
        if (what < 0 || what > 1) return OUTSIDE;
        if (kinds.isEmpty()) return STATE;
        int least = all().stream().filter(this::isFit).mapToInt(this::widest).min().orElse(NONE);
        if (what == 1 || least == NONE) return least;
        for (int order = 0; order < all().size(); order++) {
            if (isFit(all().get(order)) && widest(all().get(order)) == least) return order;
        }
        throw new IllegalStateException();
    }

    int odds(int one, int other, int what) {
        if (noLeaf(one) || noLeaf(other) || one == other) return UNKNOWN;
        if (what < 0 || what > 1) return OUTSIDE;
        List<List<Integer>> fits = new ArrayList<>(all());
        fits.removeIf(order -> !isFit(order));
        int above = (int) fits.stream().filter(order -> order.indexOf(one) < order.indexOf(other)).count();
        int below = fits.size();
        if (below == 0) return what;
        for (int divisor = below; divisor > 1; divisor--) {
            if (above % divisor == 0 && below % divisor == 0) {
                above /= divisor;
                below /= divisor;
            }
        }
        return what == 0 ? above : below;
    }

    int see(int leaf, int deep, boolean through) {
        if (noLeaf(leaf)) return UNKNOWN;
        if (deep < 1 || deep > kinds.length()) return OUTSIDE;
        if (seen.size() == 6) return FULL;
        seen.add(new Sight(leaf, deep, through));
        return seen.size();
    }

    int forget() {
        int was = seen.size();
        seen.clear();
        return was;
    }

    int could() {
        return kinds.isEmpty() ? STATE : possible().size();
    }

    int trial() {
        if (kinds.isEmpty()) return STATE;
        List<List<Integer>> left = possible();
        int best = NONE;
        int fewest = Integer.MAX_VALUE;
        for (int told = 10; told < 10 * (kinds.length() + 1) && !left.isEmpty(); told++) {
            int deep = told / 10;
            int leaf = told % 10;
            if (noLeaf(leaf)) continue;
            int yes = (int) left.stream().filter(order -> order.indexOf(leaf) < deep).count();
            int worst = Math.max(yes, left.size() - yes);
            if (worst < fewest) {
                fewest = worst;
                best = told;
            }
        }
        return best;
    }

    int shuffles(int times, int seed, int what) {
        if (times < 1 || times > 99 || seed < 0 || what < 0 || what > 2) return OUTSIDE;
        if (kinds.isEmpty()) return STATE;
        java.math.BigInteger now = java.math.BigInteger.valueOf(seed);
        List<Integer> order = lie;
        int done = 0;
        for (int time = 0; time < times; time++) {
            now = after(now);
            int leaf = now.intValueExact() / 65536 % kinds.length();
            now = after(now);
            int place = now.intValueExact() / 65536 % kinds.length();
            if (!isMove(order, leaf, place)) continue;
            order = put(order, leaf, place);
            done++;
        }
        return what == 0 ? done : what == 1 ? all().indexOf(order) : now.intValueExact();
    }

    private static java.math.BigInteger after(java.math.BigInteger seed) {
        return seed.multiply(java.math.BigInteger.valueOf(1103515245)).add(java.math.BigInteger.valueOf(12345))
                .mod(java.math.BigInteger.TWO.pow(31));
    }

    int image() {
        if (kinds.isEmpty()) return STATE;
        kept = new Kept(kinds, lie, moves, new ArrayList<>(seen));
        return moves;
    }

    int restore() {
        if (kept == null) return STATE;
        kinds = kept.kinds;
        lie = kept.lie;
        moves = kept.moves;
        seen = new ArrayList<>(kept.seen);
        return moves;
    }

    int count(int what) {
        int sum = 0;
        switch (what) {
            case 0: return kinds.length();
            case 1: return lie.stream().mapToInt(this::thick).sum();
            case 2: return widest(lie);
            case 3:
                for (int hinge = 0; hinge < kinds.length() - 1; hinge++) sum += one(width(lie, hinge) > 0);
                return sum;
            case 4: return (int) lie.stream().filter(leaf -> isContent(lie, leaf)).count();
            case 5:
                for (int leaf = 0; leaf < kinds.length(); leaf++) {
                    for (int place = 0; place < kinds.length(); place++) sum += one(isMove(lie, leaf, place));
                }
                return sum;
            case 6: return moves;
            case 7: return seen.size();
            case 8: return page.length();
            case 9: return read;
            default: return OUTSIDE;
        }
    }

    long digest() {
        List<Integer> told = new ArrayList<>();
        for (int leaf = 0; leaf < kinds.length(); leaf++) {
            for (int what = 0; what < 4; what++) told.add(leaf(leaf, what));
            told.add(tops(leaf, 0));
            told.add(tops(leaf, 1));
        }
        for (int hinge = 0; hinge < kinds.length() - 1; hinge++) {
            told.add(hinge(hinge, 0));
            told.add(hinge(hinge, 1));
        }
        if (!kinds.isEmpty()) {
            for (int what = 0; what < 4; what++) told.add(orders(what));
            told.add(trim(0));
            told.add(trim(1));
            told.add(odds(0, 1, 0));
            told.add(odds(0, 1, 1));
            told.add(could());
        }
        for (int letter = 0; letter < page.length(); letter++) told.add((int) page.charAt(letter));
        for (int what = 0; what < 10; what++) told.add(count(what));
        long sum = 1319;
        for (int number : told) sum = 31 * sum + number;
        return sum;
    }
}
