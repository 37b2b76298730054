import java.util.Random;

/** Long runs of calls, and all strips of few leaves, each answer against that of the literal model. */
public final class AgainstModelTest {
    private static final int RUNS = 70, CALLS = 440;
    private static final int[] ODD = {-1, 7, 8, 10, 16, 17, 127, 461, 462, Integer.MAX_VALUE, Integer.MIN_VALUE};

    private static final Due DUE = new Due("against the model");
    private static final Random RANDOM = new Random(20261118);

    private static FoldedStrip strip;
    private static StripModel model;
    private static String told;

    public static void main(String[] args) {
        for (int run = 0; run < RUNS; run++) randomRun(run);
        for (int leaves = 2; leaves <= 4; leaves++) everyStrip(leaves, "");
        for (int leaves = 2; leaves <= 7; leaves++) everyWay(leaves);
        Due.finish();
    }

    private static void start(String text) {
        strip = new FoldedStrip();
        model = new StripModel();
        read(text);
    }

    private static void read(String text) {
        for (char sign : text.toCharArray()) {
            told = "letter " + sign;
            same(strip.letter(sign), model.letter(sign));
        }
        told = "strip " + text;
        same(strip.strip(), model.strip());
    }

    private static void same(long got, long want) {
        DUE.is(told, got, want);
    }

    private static int below(int bound) {
        return RANDOM.nextInt(20) == 0 ? ODD[RANDOM.nextInt(ODD.length)] : RANDOM.nextInt(bound);
    }

    private static String randomText() {
        // Plain leaves more often, so that there are fit orders, too.
        String signs = RANDOM.nextBoolean() ? "lbwct" : "llllbbwwct";
        StringBuilder text = new StringBuilder();
        int leaves = RANDOM.nextInt(3) == 0 ? 7 : 2 + RANDOM.nextInt(6);
        for (int leaf = 0; leaf < leaves; leaf++) text.append(signs.charAt(RANDOM.nextInt(signs.length())));
        return text.toString();
    }

    private static void randomRun(int run) {
        start("");
        for (int call = 0; call < CALLS; call++) {
            told = "run " + run + ", call " + call;
            int pick = RANDOM.nextInt(call < 40 ? 34 : 36);
            if (pick == 34 && RANDOM.nextInt(4) == 0) {
                strip.blank();
                model.blank();
                read(randomText());
            } else {
                randomCall(pick);
            }
            if (call % 64 == 63) same(strip.digest(), model.digest());
        }
    }

    private static void randomCall(int pick) {
        int leaves = Math.max(2, model.count(0));
        int one = below(leaves);
        int two = below(leaves);
        int what = below(5);
        int order = below(Math.max(2, model.orders(0)));
        told += ", call kind " + pick + " of " + one + " " + two + " " + what + " " + order;
        switch (pick) {
            case 0: same(strip.letter(one * 20), model.letter(one * 20)); break;
            case 1: same(strip.blank(), model.blank()); break;
            case 2: same(strip.fault(), model.fault()); break;
            case 3: same(strip.strip(), model.strip()); break;
            case 4: same(strip.leaf(one, what), model.leaf(one, what)); break;
            case 5: same(strip.as(one, what), model.as(one, what)); break;
            case 6: same(strip.hinge(one, what % 3), model.hinge(one, what % 3)); break;
            case 7: same(strip.at(one), model.at(one)); break;
            case 8: same(strip.may(one, two), model.may(one, two)); break;
            case 9: case 30: case 31: same(strip.move(one, two), model.move(one, two)); break;
            case 10: same(strip.turn(), model.turn()); break;
            case 11: same(strip.lay(order), model.lay(order)); break;
            case 12: case 32: same(strip.change(one, what), model.change(one, what)); break;
            case 13: same(strip.orders(what), model.orders(what)); break;
            case 14: same(strip.order(order, what), model.order(order, what)); break;
            case 15: same(strip.order(order, 10 + two), model.order(order, 10 + two)); break;
            case 16: same(strip.tops(one, what % 3), model.tops(one, what % 3)); break;
            case 17: same(strip.near(order), model.near(order)); break;
            case 18: same(strip.far(what), model.far(what)); break;
            case 19: same(strip.trim(what % 3), model.trim(what % 3)); break;
            case 20: same(strip.odds(one, two, what % 3), model.odds(one, two, what % 3)); break;
            case 21: case 33:
                boolean through = RANDOM.nextBoolean();
                same(strip.see(one, two, through), model.see(one, two, through));
                break;
            case 22: if (RANDOM.nextInt(3) == 0) same(strip.forget(), model.forget()); break;
            case 23: same(strip.could(), model.could()); break;
            case 24: same(strip.trial(), model.trial()); break;
            case 25:
                int times = below(100);
                int seed = RANDOM.nextInt();
                same(strip.shuffles(times, seed, what % 4), model.shuffles(times, seed, what % 4));
                break;
            case 26: same(strip.image(), model.image()); break;
            case 27: same(strip.restore(), model.restore()); break;
            case 28:
                int counted = below(10);
                same(strip.count(counted), model.count(counted));
                break;
            default: goodLetter(); break;
        }
    }

    private static void goodLetter() {
        char sign = "lbwct".charAt(RANDOM.nextInt(5));
        same(strip.letter(sign), model.letter(sign));
    }

    private static void everyStrip(int leaves, String begun) {
        if (begun.length() < leaves) {
            for (char sign : "lbwct".toCharArray()) everyStrip(leaves, begun + sign);
            return;
        }
        start(begun);
        for (int order = 0; order < model.orders(0); order++) {
            told = begun + " in order " + order;
            same(strip.lay(order), model.lay(order));
            same(strip.order(order, 0), model.order(order, 0));
            same(strip.order(order, 1), model.order(order, 1));
            for (int what = 0; what < 4; what++) same(strip.far(what), model.far(what));
            for (int what = 0; what < 10; what++) same(strip.count(what), model.count(what));
            for (int leaf = 0; leaf < leaves; leaf++) same(strip.leaf(leaf, 3), model.leaf(leaf, 3));
        }
        told = begun;
        same(strip.digest(), model.digest());
    }

    /** From every order to every other one, and all single moves: each by a new object, for its 512 calls. */
    private static void everyWay(int leaves) {
        String text = "wbltclb".substring(0, leaves);
        for (int from = 0; from < StripModel.foldedOrders(leaves).size(); from++) {
            startFrom(text, from);
            for (int place = 0; place < leaves; place++) same(strip.at(place), model.at(place));
            for (int leaf = 0; leaf < leaves; leaf++) {
                for (int place = 0; place < leaves; place++) same(strip.may(leaf, place), model.may(leaf, place));
            }
            for (int what = 0; what < 4; what++) same(strip.far(what), model.far(what));
            same(strip.turn(), model.turn());
            same(strip.orders(2), model.orders(2));
            startFrom(text, from);
            int[] near = model.nearToEach();
            for (int order = 0; order < near.length; order++) same(strip.near(order), near[order]);
            same(strip.orders(0), near.length);
        }
    }

    private static void startFrom(String text, int order) {
        start(text);
        told = text + " in order " + order;
        same(strip.lay(order), model.lay(order));
    }
}
