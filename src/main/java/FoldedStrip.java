/**
 * A strip of two to seven leaves, folded up: how it lies, how it could lie, and what a needle tells of it.
 * All rows are made with the object and used again, so that no call makes anything.
 */
public final class FoldedStrip {
    public static final int NONE = -1, UNKNOWN = -101, OUTSIDE = -102, STATE = -103, FULL = -104;

    private static final int FEWEST_LEAVES = 2, MOST_LEAVES = 7;
    private static final int MOST_LETTERS = 9, HIGHEST_CODE = 126;
    private static final int MOST_SEEN = 6, MOST_MOVES = 999, MOST_SHUFFLES = 99;
    // What seven leaves have: so many orders, and from all of these so many moves that lead to different ones.
    private static final int MOST_ORDERS = 462, MOST_STEPS = 3964;

    // A kind's number is the place of its letter here.
    private static final String KIND_LETTERS = "lbwct";
    private static final int BOARD = 1, WAXED = 2, COVER = 3, TARRED = 4;
    private static final int THIN = 1, THICK = 3;

    private final Page page = new Page();
    private final Folds folds = new Folds();
    private final Pile now = new Pile();
    private final Pile kept = new Pile();
    private final Verdicts verdicts = new Verdicts(folds, now.kinds);
    private final Paths paths = new Paths(folds);
    private final Needle needle = new Needle(folds, now);
    private boolean imageKept = false;
    private int stripsRead = 0;

    public FoldedStrip() {
    }

    // ---- the strip

    public int letter(int code) {
        if (code < 1 || code > HIGHEST_CODE) return OUTSIDE;
        if (page.size >= MOST_LETTERS) return FULL;
        page.add(code);
        return page.size;
    }

    public int blank() {
        int had = page.size;
        page.size = 0;
        return had;
    }

    public int fault() {
        return page.firstWrong();
    }

    public int strip() {
        if (page.size < FEWEST_LEAVES || page.size > MOST_LEAVES || page.firstWrong() < page.size) return STATE;
        for (int leaf = 0; leaf < page.size; leaf++) now.kinds[leaf] = page.kindAt(leaf);
        folds.foldAll(page.size);
        page.size = 0;
        // The zigzag is the order with the least leaf at each place in turn, so it is the first one.
        now.order = 0;
        now.moves = 0;
        now.seen = 0;
        imageKept = false;
        stripsRead++;
        verdicts.judgeAll();
        return folds.leaves;
    }

    public int leaf(int leaf, int what) {
        if (!isLeaf(leaf)) return UNKNOWN;
        switch (what) {
            case 0: return now.kinds[leaf];
            case 1: return thickness(now.kinds[leaf]);
            case 2: return folds.placeOf(now.order, leaf);
            case 3: return asNumber(verdicts.isContent(now.order, leaf));
            default: return OUTSIDE;
        }
    }

    public int as(int leaf, int kind) {
        if (!isLeaf(leaf)) return UNKNOWN;
        if (!isKind(kind)) return OUTSIDE;
        return isOfKind(now.kinds[leaf], kind) ? leaf : NONE;
    }

    public int hinge(int hinge, int what) {
        if (hinge < 0 || hinge >= folds.leaves - 1) return UNKNOWN;
        switch (what) {
            case 0: return hinge % 2;
            case 1: return verdicts.width(now.order, hinge);
            default: return OUTSIDE;
        }
    }

    public int at(int place) {
        if (!isPlace(place)) return UNKNOWN;
        return folds.leafAt(now.order, place);
    }

    public int may(int leaf, int place) {
        if (!isLeaf(leaf) || !isPlace(place)) return UNKNOWN;
        return asNumber(folds.afterMove(now.order, leaf, place) != NONE);
    }

    // ---- what is done

    public int move(int leaf, int place) {
        if (!isLeaf(leaf) || !isPlace(place)) return UNKNOWN;
        int next = folds.afterMove(now.order, leaf, place);
        if (next == NONE || next == now.order) return STATE;
        if (now.moves >= MOST_MOVES) return FULL;
        now.order = next;
        now.moves++;
        return openHinges();
    }

    public int turn() {
        if (isWithoutStrip()) return STATE;
        now.order = folds.afterTurn(now.order);
        return folds.leafAt(now.order, 0);
    }

    public int lay(int order) {
        if (!isOrder(order)) return UNKNOWN;
        int before = now.order;
        now.order = order;
        return before;
    }

    public int change(int leaf, int kind) {
        if (!isLeaf(leaf)) return UNKNOWN;
        if (!isKind(kind)) return OUTSIDE;
        int before = now.kinds[leaf];
        now.kinds[leaf] = kind;
        verdicts.judgeAll();
        return before;
    }

    // ---- what would be

    public int orders(int what) {
        if (what < 0 || what > 3) return OUTSIDE;
        if (isWithoutStrip()) return STATE;
        switch (what) {
            case 0: return folds.size;
            case 1: return verdicts.fits;
            case 2: return now.order;
            default: return asNumber(verdicts.isFit(now.order));
        }
    }

    public int order(int order, int what) {
        if (!isOrder(order)) return UNKNOWN;
        if (what == 0) return asNumber(verdicts.isFit(order));
        if (what == 1) return verdicts.widestOf(order);
        if (what < 10 || what >= 10 + MOST_LEAVES) return OUTSIDE;
        return folds.leafAt(order, what - 10);
    }

    public int tops(int leaf, int what) {
        if (!isLeaf(leaf)) return UNKNOWN;
        if (what < 0 || what > 1) return OUTSIDE;
        int found = 0;
        for (int order = 0; order < folds.size; order++) {
            if (folds.leafAt(order, 0) == leaf && (what == 0 || verdicts.isFit(order))) found++;
        }
        return found;
    }

    public int near(int order) {
        if (!isOrder(order)) return UNKNOWN;
        paths.measureFrom(now.order);
        return paths.distanceTo(order);
    }

    public int far(int what) {
        if (what < 0 || what > 3) return OUTSIDE;
        if (isWithoutStrip()) return STATE;
        paths.measureFrom(now.order);
        int which = what < 2 ? farthest() : home();
        return what % 2 == 1 ? which : paths.distanceTo(which);
    }

    public int trim(int what) {
        if (what < 0 || what > 1) return OUTSIDE;
        if (isWithoutStrip()) return STATE;
        int which = verdicts.trimmest();
        return what == 0 || which == NONE ? which : verdicts.widestOf(which);
    }

    public int odds(int one, int other, int what) {
        if (!isLeaf(one) || !isLeaf(other) || one == other) return UNKNOWN;
        if (what < 0 || what > 1) return OUTSIDE;
        if (verdicts.fits == 0) return what;
        int above = verdicts.fitsWithAbove(one, other);
        int divisor = commonDivisor(verdicts.fits, above);
        return (what == 0 ? above : verdicts.fits) / divisor;
    }

    // ---- what is seen

    public int see(int leaf, int deep, boolean through) {
        if (!isLeaf(leaf)) return UNKNOWN;
        if (deep < 1 || deep > folds.leaves) return OUTSIDE;
        if (now.seen >= MOST_SEEN) return FULL;
        now.addSeen(leaf, deep, through);
        return now.seen;
    }

    public int forget() {
        int was = now.seen;
        now.seen = 0;
        return was;
    }

    public int could() {
        if (isWithoutStrip()) return STATE;
        return needle.countPossible();
    }

    public int trial() {
        if (isWithoutStrip()) return STATE;
        return needle.bestTry();
    }

    public int shuffles(int times, int seed, int what) {
        if (times < 1 || times > MOST_SHUFFLES || seed < 0 || what < 0 || what > 2) return OUTSIDE;
        if (isWithoutStrip()) return STATE;
        int order = now.order;
        int done = 0;
        int last = seed;
        for (int time = 0; time < times; time++) {
            int leafSeed = seedAfter(last);
            int placeSeed = seedAfter(leafSeed);
            int next = folds.afterMove(order, draw(leafSeed, folds.leaves), draw(placeSeed, folds.leaves));
            if (next != NONE && next != order) {
                order = next;
                done++;
            }
            last = placeSeed;
        }
        if (what == 0) return done;
        return what == 1 ? order : last;
    }

    // ---- what is told of all

    public int image() {
        if (isWithoutStrip()) return STATE;
        kept.copyFrom(now);
        imageKept = true;
        return kept.moves;
    }

    public int restore() {
        if (!imageKept) return STATE;
        now.copyFrom(kept);
        verdicts.judgeAll();
        return now.moves;
    }

    public int count(int what) {
        switch (what) {
            case 0: return folds.leaves;
            case 1: return wholeThickness();
            case 2: return verdicts.widestOf(now.order);
            case 3: return openHinges();
            case 4: return contentLeaves();
            case 5: return possibleMoves();
            case 6: return now.moves;
            case 7: return now.seen;
            case 8: return page.size;
            case 9: return stripsRead;
            default: return OUTSIDE;
        }
    }

    public long digest() {
        long sum = 1319;
        for (int leaf = 0; leaf < folds.leaves; leaf++) {
            for (int what = 0; what <= 3; what++) sum = 31 * sum + leaf(leaf, what);
            for (int what = 0; what <= 1; what++) sum = 31 * sum + tops(leaf, what);
        }
        for (int hinge = 0; hinge < folds.leaves - 1; hinge++) {
            for (int what = 0; what <= 1; what++) sum = 31 * sum + hinge(hinge, what);
        }
        if (!isWithoutStrip()) sum = withOrders(sum);
        for (int letter = 0; letter < page.size; letter++) sum = 31 * sum + page.codes[letter];
        for (int what = 0; what <= 9; what++) sum = 31 * sum + count(what);
        return sum;
    }

    private long withOrders(long start) {
        long sum = start;
        for (int what = 0; what <= 3; what++) sum = 31 * sum + orders(what);
        for (int what = 0; what <= 1; what++) sum = 31 * sum + trim(what);
        for (int what = 0; what <= 1; what++) sum = 31 * sum + odds(0, 1, what);
        return 31 * sum + could();
    }

    private boolean isWithoutStrip() {
        return folds.leaves == 0;
    }

    private boolean isLeaf(int leaf) {
        return leaf >= 0 && leaf < folds.leaves;
    }

    private boolean isPlace(int place) {
        return place >= 0 && place < folds.leaves;
    }

    private boolean isOrder(int order) {
        return order >= 0 && order < folds.size;
    }

    private int farthest() {
        int best = now.order;
        for (int order = 0; order < folds.size; order++) {
            if (paths.distanceTo(order) > paths.distanceTo(best)) best = order;
        }
        return best;
    }

    private int home() {
        int best = NONE;
        for (int order = 0; order < folds.size; order++) {
            int distance = paths.distanceTo(order);
            if (distance == NONE || !verdicts.isFit(order)) continue;
            if (best == NONE || distance < paths.distanceTo(best)) best = order;
        }
        return best;
    }

    private int wholeThickness() {
        int sum = 0;
        for (int leaf = 0; leaf < folds.leaves; leaf++) sum += thickness(now.kinds[leaf]);
        return sum;
    }

    private int openHinges() {
        int open = 0;
        for (int hinge = 0; hinge < folds.leaves - 1; hinge++) {
            if (verdicts.width(now.order, hinge) > 0) open++;
        }
        return open;
    }

    private int contentLeaves() {
        int content = 0;
        for (int leaf = 0; leaf < folds.leaves; leaf++) {
            if (verdicts.isContent(now.order, leaf)) content++;
        }
        return content;
    }

    private int possibleMoves() {
        int moves = 0;
        for (int leaf = 0; leaf < folds.leaves; leaf++) {
            for (int place = 0; place < folds.leaves; place++) {
                int next = folds.afterMove(now.order, leaf, place);
                if (next != NONE && next != now.order) moves++;
            }
        }
        return moves;
    }

    private static int asNumber(boolean yes) {
        return yes ? 1 : 0;
    }

    private static boolean isKind(int kind) {
        return kind >= 0 && kind < KIND_LETTERS.length();
    }

    private static boolean isOfKind(int own, int kind) {
        return kind == 0 || own == kind || (kind == BOARD && own == COVER) || (kind == WAXED && own == TARRED);
    }

    private static int thickness(int kind) {
        return isOfKind(kind, BOARD) ? THICK : THIN;
    }

    private static int seedAfter(int seed) {
        return (int) ((1103515245L * seed + 12345L) % 2147483648L);
    }

    private static int draw(int seed, int many) {
        return many <= 0 ? 0 : seed / 65536 % many;
    }

    // Never 0, so that it can divide.
    private static int commonDivisor(int one, int other) {
        int larger = one;
        int smaller = other;
        for (int step = 0; step < MOST_ORDERS && smaller != 0; step++) {
            int rest = larger % smaller;
            larger = smaller;
            smaller = rest;
        }
        return Math.max(1, larger);
    }

    /** The letters that wait to be read. */
    private static final class Page {
        final int[] codes = new int[MOST_LETTERS];
        int size = 0;

        void add(int code) {
            if (size >= codes.length) return;
            codes[size] = code;
            size++;
        }

        int kindAt(int letter) {
            if (letter < 0 || letter >= size) return NONE;
            return KIND_LETTERS.indexOf((char) codes[letter]);
        }

        int firstWrong() {
            for (int letter = 0; letter < size; letter++) {
                if (letter >= MOST_LEAVES || kindAt(letter) == NONE) return letter;
            }
            return size;
        }
    }

    /** What an image keeps: kinds, how it lies, how many moves there were, what is seen. */
    private static final class Pile {
        final int[] kinds = new int[MOST_LEAVES];
        int order = 0;
        int moves = 0;
        int seen = 0;
        final int[] seenLeaf = new int[MOST_SEEN];
        final int[] seenDeep = new int[MOST_SEEN];
        final boolean[] seenThrough = new boolean[MOST_SEEN];

        void addSeen(int leaf, int deep, boolean through) {
            if (seen >= MOST_SEEN) return;
            seenLeaf[seen] = leaf;
            seenDeep[seen] = deep;
            seenThrough[seen] = through;
            seen++;
        }

        void copyFrom(Pile other) {
            for (int leaf = 0; leaf < MOST_LEAVES; leaf++) kinds[leaf] = other.kinds[leaf];
            order = other.order;
            moves = other.moves;
            seen = other.seen;
            for (int sight = 0; sight < MOST_SEEN; sight++) {
                seenLeaf[sight] = other.seenLeaf[sight];
                seenDeep[sight] = other.seenDeep[sight];
                seenThrough[sight] = other.seenThrough[sight];
            }
        }
    }

    /**
     * All orders in which so many leaves can be folded, by their numbers.
     * An order is held as a number of three bits a place, the top one highest, so that the numbers
     * rise as the orders do; a second one has three bits a leaf, for its place.
     */
    private static final class Folds {
        int leaves = 0;
        int size = 0;
        private final int[] leafCodes = new int[MOST_ORDERS];
        private final int[] placeCodes = new int[MOST_ORDERS];
        private final int[] placeNow = new int[MOST_LEAVES];

        void foldAll(int many) {
            if (many == leaves || many > MOST_LEAVES) return;
            leaves = many;
            size = 0;
            for (int leaf = 0; leaf < MOST_LEAVES; leaf++) placeNow[leaf] = NONE;
            addBelow(this, 0, 0);
        }

        int leafAt(int order, int place) {
            if (order < 0 || order >= size || place < 0 || place >= leaves) return NONE;
            return leafIn(leafCodes[order], place);
        }

        int placeOf(int order, int leaf) {
            if (order < 0 || order >= size || leaf < 0 || leaf >= leaves) return NONE;
            return placeCodes[order] >> (3 * leaf) & 7;
        }

        /** The order that comes of it, the same one for a leaf's own place; NONE if it cannot be folded. */
        int afterMove(int order, int leaf, int place) {
            int from = placeOf(order, leaf);
            if (from == NONE || place < 0 || place >= leaves) return NONE;
            return find(putIn(takeOut(leafCodes[order], from), leaf, place));
        }

        int afterTurn(int order) {
            int code = 0;
            for (int place = 0; place < leaves; place++) {
                code |= leafAt(order, leaves - 1 - place) << shiftOf(place);
            }
            return find(code);
        }

        // Goes no deeper than there are leaves.
        private static void addBelow(Folds folds, int place, int code) {
            if (place >= folds.leaves) {
                folds.keep(code);
                return;
            }
            for (int leaf = 0; leaf < folds.leaves; leaf++) {
                if (!folds.canComeNext(leaf)) continue;
                folds.placeNow[leaf] = place;
                addBelow(folds, place + 1, code | leaf << shiftOf(place));
                folds.placeNow[leaf] = NONE;
            }
        }

        private boolean canComeNext(int leaf) {
            return placeNow[leaf] == NONE && !crossesAbove(leaf, 0) && !crossesAbove(leaf, 1);
        }

        private void keep(int code) {
            if (size >= MOST_ORDERS) return;
            leafCodes[size] = code;
            int places = 0;
            for (int leaf = 0; leaf < leaves; leaf++) places |= placeNow[leaf] << (3 * leaf);
            placeCodes[size] = places;
            size++;
        }

        /**
         * Whether a leaf put below all others would close a hinge across another one on that side:
         * one that has an end between, and the other end above, or not laid yet, and so further below.
         */
        private boolean crossesAbove(int leaf, int side) {
            int mate = mateOf(leaf, side);
            if (mate == NONE || placeNow[mate] == NONE) return false;
            for (int between = 0; between < leaves; between++) {
                if (placeNow[between] <= placeNow[mate]) continue;
                int end = mateOf(between, side);
                // NONE is less than each place: so this holds for one that is not laid yet, too.
                if (end != NONE && placeNow[end] < placeNow[mate]) return true;
            }
            return false;
        }

        // A leaf has at most one hinge on each side: an even one has its own number's on the even side.
        private int mateOf(int leaf, int side) {
            int mate = leaf % 2 == side ? leaf + 1 : leaf - 1;
            return mate >= 0 && mate < leaves ? mate : NONE;
        }

        private int find(int code) {
            int found = 0;
            for (int step = 256; step > 0; step /= 2) {
                if (found + step < size && leafCodes[found + step] <= code) found += step;
            }
            return found < size && leafCodes[found] == code ? found : NONE;
        }

        private static int shiftOf(int place) {
            return 3 * (MOST_LEAVES - 1 - place);
        }

        private static int leafIn(int code, int place) {
            return code >> shiftOf(place) & 7;
        }

        private static int takeOut(int code, int place) {
            int shift = shiftOf(place);
            int below = code & ((1 << shift) - 1);
            return upTo(code, shift) | below << 3;
        }

        private static int putIn(int code, int leaf, int place) {
            int shift = shiftOf(place);
            int below = code & ((1 << (shift + 3)) - 1);
            return upTo(code, shift) | leaf << shift | below >> 3;
        }

        private static int upTo(int code, int shift) {
            return code >> (shift + 3) << (shift + 3);
        }
    }

    /** Which orders are fit, and how wide their hinges are, for the kinds that the leaves have now. */
    private static final class Verdicts {
        int fits = 0;
        private final Folds folds;
        private final int[] kinds;
        private final boolean[] fit = new boolean[MOST_ORDERS];
        private final int[] widest = new int[MOST_ORDERS];

        Verdicts(Folds folds, int[] kinds) {
            this.folds = folds;
            this.kinds = kinds;
        }

        void judgeAll() {
            fits = 0;
            for (int order = 0; order < folds.size; order++) {
                fit[order] = areAllContent(order);
                widest[order] = widestHinge(order);
                if (fit[order]) fits++;
            }
        }

        boolean isFit(int order) {
            return order >= 0 && order < folds.size && fit[order];
        }

        int widestOf(int order) {
            return order >= 0 && order < folds.size ? widest[order] : 0;
        }

        int trimmest() {
            int best = NONE;
            for (int order = 0; order < folds.size; order++) {
                if (fit[order] && (best == NONE || widest[order] < widest[best])) best = order;
            }
            return best;
        }

        int fitsWithAbove(int one, int other) {
            int above = 0;
            for (int order = 0; order < folds.size; order++) {
                if (fit[order] && folds.placeOf(order, one) < folds.placeOf(order, other)) above++;
            }
            return above;
        }

        boolean isContent(int order, int leaf) {
            int place = folds.placeOf(order, leaf);
            if (place == NONE) return false;
            boolean outside = place == 0 || place == folds.leaves - 1;
            if (kinds[leaf] == COVER) return outside;
            if (kinds[leaf] == TARRED && outside) return false;
            return !isOfKind(kinds[leaf], WAXED) || !(hasWaxAt(order, place - 1) || hasWaxAt(order, place + 1));
        }

        int width(int order, int hinge) {
            int one = folds.placeOf(order, hinge);
            int other = folds.placeOf(order, hinge + 1);
            int sum = 0;
            for (int place = Math.min(one, other) + 1; place < Math.max(one, other); place++) {
                int leaf = folds.leafAt(order, place);
                if (leaf != NONE) sum += thickness(kinds[leaf]);
            }
            return sum;
        }

        private boolean areAllContent(int order) {
            for (int leaf = 0; leaf < folds.leaves; leaf++) {
                if (!isContent(order, leaf)) return false;
            }
            return true;
        }

        private int widestHinge(int order) {
            int most = 0;
            for (int hinge = 0; hinge < folds.leaves - 1; hinge++) most = Math.max(most, width(order, hinge));
            return most;
        }

        private boolean hasWaxAt(int order, int place) {
            int leaf = folds.leafAt(order, place);
            return leaf != NONE && isOfKind(kinds[leaf], WAXED);
        }
    }

    /**
     * By how few moves one comes from an order to each other one.
     * Which moves there are depends on the number of leaves alone, so they are looked up once for it.
     */
    private static final class Paths {
        private final Folds folds;
        private int leaves = 0;
        private int start = NONE;
        private int steps = 0;
        private final int[] firstStep = new int[MOST_ORDERS + 1];
        private final int[] stepTo = new int[MOST_STEPS];
        private final int[] distances = new int[MOST_ORDERS];
        private final int[] queue = new int[MOST_ORDERS];

        Paths(Folds folds) {
            this.folds = folds;
        }

        int distanceTo(int order) {
            return order >= 0 && order < folds.size ? distances[order] : NONE;
        }

        void measureFrom(int order) {
            if (order < 0 || order >= folds.size) return;
            if (leaves != folds.leaves) findSteps();
            if (order == start) return;
            start = order;
            for (int other = 0; other < folds.size; other++) distances[other] = NONE;
            distances[order] = 0;
            queue[0] = order;
            int reached = 1;
            for (int head = 0; head < reached && head < folds.size; head++) reached = spread(queue[head], reached);
        }

        private int spread(int order, int reached) {
            int end = reached;
            for (int step = firstStep[order]; step < firstStep[order + 1]; step++) {
                int next = stepTo[step];
                if (distances[next] != NONE || end >= MOST_ORDERS) continue;
                distances[next] = distances[order] + 1;
                queue[end] = next;
                end++;
            }
            return end;
        }

        private void findSteps() {
            leaves = folds.leaves;
            start = NONE;
            steps = 0;
            for (int order = 0; order < folds.size; order++) {
                firstStep[order] = steps;
                findStepsFrom(order);
            }
            firstStep[folds.size] = steps;
        }

        private void findStepsFrom(int order) {
            for (int from = 0; from < leaves; from++) {
                int leaf = folds.leafAt(order, from);
                for (int place = 0; place < leaves; place++) {
                    // To the place right above is what the leaf there does by a move to the place right below.
                    if (place == from || place == from - 1) continue;
                    addStep(folds.afterMove(order, leaf, place));
                }
            }
        }

        private void addStep(int next) {
            if (next == NONE || steps >= MOST_STEPS) return;
            stepTo[steps] = next;
            steps++;
        }
    }

    /** Which orders agree with all that is seen, and how to push the needle next. */
    private static final class Needle {
        private final Folds folds;
        private final Pile pile;
        private final int[] through = new int[MOST_LEAVES * MOST_LEAVES];

        Needle(Folds folds, Pile pile) {
            this.folds = folds;
            this.pile = pile;
        }

        int countPossible() {
            int possible = 0;
            for (int order = 0; order < folds.size; order++) {
                if (isPossible(order)) possible++;
            }
            return possible;
        }

        int bestTry() {
            int possible = countThrough();
            int best = NONE;
            int fewest = possible;
            for (int deep = 1; deep <= folds.leaves; deep++) {
                for (int leaf = 0; leaf < folds.leaves; leaf++) {
                    int yes = through[rowOf(deep) + leaf];
                    int worst = Math.max(yes, possible - yes);
                    if (possible > 0 && (best == NONE || worst < fewest)) {
                        best = 10 * deep + leaf;
                        fewest = worst;
                    }
                }
            }
            return best;
        }

        // A row for each depth: how many possible orders have each leaf no deeper; tells how many are possible.
        private int countThrough() {
            for (int cell = 0; cell < through.length; cell++) through[cell] = 0;
            int possible = 0;
            for (int order = 0; order < folds.size; order++) {
                if (!isPossible(order)) continue;
                possible++;
                for (int leaf = 0; leaf < folds.leaves; leaf++) through[rowOf(folds.placeOf(order, leaf) + 1) + leaf]++;
            }
            for (int deep = 2; deep <= folds.leaves; deep++) {
                for (int leaf = 0; leaf < folds.leaves; leaf++) through[rowOf(deep) + leaf] += through[rowOf(deep - 1) + leaf];
            }
            return possible;
        }

        private boolean isPossible(int order) {
            for (int sight = 0; sight < pile.seen; sight++) {
                boolean goesThrough = folds.placeOf(order, pile.seenLeaf[sight]) < pile.seenDeep[sight];
                if (goesThrough != pile.seenThrough[sight]) return false;
            }
            return true;
        }

        private static int rowOf(int deep) {
            return (deep - 1) * MOST_LEAVES;
        }
    }
}
