import java.util.Random;

/**
 * Runs of calls by chance (the same ones each time), each answer held against the Model's. What to call next is asked
 * of the Model, so that no more than the 512 calls that are promised are made of an object.
 */
public final class RandomRunsTest {
    private static final int MOST_CALLS = 512;
    /** What isSameAllOver asks at most: of 14 PERSONS and 6 LOTS. */
    private static final int CALLS_ALL_OVER = 10 + 14 * 5 + 14 * 12 + 12;
    /** What a step calls at most: the longest text that newMarket makes, market() and fault(). */
    private static final int CALLS_A_STEP = 63 + 2;

    private final Random chance;
    private final ClothPrices x = new ClothPrices();
    private final Model y = new Model();
    private final StringBuilder story = new StringBuilder();
    /** Calls of the object so far. */
    private int calls;
    /** Dear calls of the Model: so many a run. */
    private int dearCalls;

    private RandomRunsTest(long seed, int dearCalls) {
        chance = new Random(seed);
        this.dearCalls = dearCalls;
    }

    /** With an argument: from that seed on, with a second one: so many runs. */
    public static void main(String[] args) {
        long from = args.length > 0 ? Long.parseLong(args[0]) : 1;
        long runs = args.length > 1 ? Long.parseLong(args[1]) : 3000;
        for (long seed = from; seed < from + runs; seed++) {
            if (!new RandomRunsTest(seed, seed % 20 == 0 ? 2 : 0).isRight()) {
                System.out.println("run of seed " + seed);
                break;
            }
        }
        for (long seed = from; seed < from + runs / 200; seed++) {
            new RandomRunsTest(seed, 0).sums();
        }
        Check.end();
    }

    /** Steps, as many as chance has it and as there are calls for; then all that can be asked is held. */
    private boolean isRight() {
        int most = chance.nextInt(4) == 0 ? among(1, MOST_CALLS) : MOST_CALLS;
        int at = 0;
        int[] answers = newMarket(false);
        while (isSame(story.substring(at).trim(), answers) && calls < most
            && calls + CALLS_A_STEP + CALLS_ALL_OVER <= MOST_CALLS) {
            at = story.length();
            answers = call();
        }
        boolean same = answers[0] == answers[1] && isSameAllOver();
        if (calls > MOST_CALLS || !same) {
            Check.due("calls of one object within the 512 that are promised", calls > MOST_CALLS ? 1 : 0, 0);
            System.out.println(story);
            return false;
        }
        return true;
    }

    /** What lots went for, where few prices fit, so that a sum that is wrong shows. */
    private void sums() {
        int lots = among(1, 6);
        text("seller 1 1;".repeat(lots));
        answers(x.market(), y.market(), "market");
        for (int l = 0; l < lots; l++) {
            int w = chance.nextBoolean() ? among(1, 3) : among(22, 27);
            boolean isDouble = chance.nextInt(4) == 0;
            answers(x.seen(l, w, 0, isDouble), y.seen(l, w, 0, isDouble), "seen", l, w, 0, isDouble);
        }
        for (int k = 0; k < 60; k++) {
            int s = 0;
            for (int l = 0; l < lots; l++) {
                s += chance.nextBoolean() ? Math.max(0, y.fits(l, among(1, 2))) : 0;
            }
            s += chance.nextInt(4) * chance.nextInt(12) - chance.nextInt(2) * 9;
            int[] many = answers(x.wentFor(s, 0), y.wentFor(s, 0), "wentFor", s, 0);
            Check.due(story.toString(), many[0], many[1]);
            int[] common = answers(x.wentFor(s, 1), y.wentFor(s, 1), "wentFor", s, 1);
            Check.due(story.toString(), common[0], common[1]);
        }
    }

    /** Whether all that can be asked about hands, bindings and sales is the Model's. */
    private boolean isSameAllOver() {
        boolean same = true;
        for (int what = 0; what <= 9; what++) {
            same &= isSame("told " + what, x.told(what), y.told(what));
        }
        for (int p = 0; p < persons(); p++) {
            for (int what = 0; what <= 4; what++) {
                same &= isSame("person " + p + " " + what, x.person(p, what), y.person(p, what));
            }
            for (int k = 0; k < 2 * y.told(0); k++) {
                same &= isSame("bound " + p + " " + k / 2 + " " + k % 2, x.bound(p, k / 2, k % 2), y.bound(p, k / 2, k % 2));
            }
        }
        for (int k = 0; k < 2 * y.told(0); k++) {
            same &= isSame("lot " + k / 2 + " " + k % 2, x.lot(k / 2, k % 2), y.lot(k / 2, k % 2));
        }
        return same;
    }

    private boolean isSame(String call, int got, int want) {
        calls++;
        return isSame(call, new int[] {got, want});
    }

    private static boolean isSame(String call, int[] answers) {
        Check.due(call, answers[0], answers[1]);
        return answers[0] == answers[1];
    }

    private int[] call() {
        switch (chance.nextInt(24)) {
            case 0: return chance.nextInt(3) == 0 ? newMarket(true) : presses();
            case 1: case 2: case 3: case 4: return hands();
            case 5: case 6: case 7: case 8: case 9: case 10: return presses();
            case 11: return time();
            case 12: case 13: case 14: case 15: return asked();
            case 16: case 17: return trades();
            case 18: return dear();
            case 19: case 20: return watched();
            case 21: case 22: return books();
            default: return images();
        }
    }

    private int persons() {
        return y.told(0) + y.told(1) + y.told(2);
    }

    /** Of one call of the object. */
    private int[] answers(int got, int want, String call, Object... arguments) {
        calls++;
        story.append(call).append(java.util.Arrays.toString(arguments)).append(" -> ").append(want).append('\n');
        return new int[] {got, want};
    }

    private void text(String text) {
        story.append("\"").append(text).append("\" ");
        Check.feed(x, text);
        calls += (text.length() + 7) / 8;
        for (int i = 0; i < text.length(); i += 8) {
            y.feed(text.substring(i, Math.min(text.length(), i + 8)));
        }
    }

    private int among(int least, int most) {
        return least + chance.nextInt(most - least + 1);
    }

    /** Mostly a person, at times one that there is not. */
    private int someone() {
        return chance.nextInt(20) == 0 ? among(-2, 15) : chance.nextInt(Math.max(1, persons()));
    }

    private int someLot() {
        return chance.nextInt(20) == 0 ? among(-2, 7) : chance.nextInt(Math.max(1, y.told(0)));
    }

    private int someBuyer() {
        return chance.nextInt(20) == 0 ? among(-2, 7) : chance.nextInt(Math.max(1, y.told(1)));
    }

    /** A PERSON whose LOT l may be, or, at times, any. */
    private int dealer(int l) {
        return chance.nextInt(3) == 0 ? l : chance.nextInt(8) == 0 ? someone() : y.told(0) + someBuyer();
    }

    private String blanks(boolean needed) {
        int n = chance.nextInt(12) == 0 ? 2 : chance.nextInt(6) == 0 ? 1 : 0;
        return " ".repeat(needed ? Math.max(1, n) : n);
    }

    private int[] newMarket(boolean mayBeWrong) {
        StringBuilder t = new StringBuilder();
        int most = chance.nextInt(3) == 0 ? 6 : 4;
        int sellers = among(chance.nextInt(10) == 0 ? 0 : 1, most);
        int range = chance.nextInt(3) == 0 ? 999 : chance.nextInt(2) == 0 ? 60 : 4;
        boolean isEager = chance.nextBoolean();
        if (chance.nextBoolean()) {
            t.append("binds").append(blanks(true)).append(among(1, 20)).append(blanks(false)).append(';');
        }
        for (int s = 0; s < sellers; s++) {
            t.append(blanks(false)).append("seller").append(blanks(false)).append(among(0, isEager ? range / 3 : range))
                .append(blanks(true)).append(among(1, 2)).append(blanks(false)).append(';');
        }
        if (chance.nextBoolean()) {
            t.append("cost ").append(among(0, 99)).append(";");
        }
        int buyers = sellers == 0 ? 0 : among(0, most);
        for (int b = 0; b < buyers; b++) {
            t.append("buyer ").append(among(1, 2)).append(blanks(true)).append(among(0, range * 6)).append(blanks(true));
            for (int l = 0; l < sellers; l++) {
                t.append(l > 0 ? "," : "").append(blanks(false)).append(among(0, range)).append(blanks(false));
            }
            t.append(';');
        }
        for (int r = among(0, 2); r > 0; r--) {
            t.append("broker ").append(among(1, 2)).append(' ').append(among(0, 50)).append(blanks(false)).append(';');
        }
        if (mayBeWrong && chance.nextInt(6) > 0) {
            spoil(t);
        }
        text(t.toString());
        if (chance.nextInt(10) == 0) {
            return answers(x.told(3), y.told(3), "told", 3);
        }
        int[] both = answers(x.market(), y.market(), "market");
        return both[0] != both[1] ? both : answers(x.fault(), y.fault(), "fault");
    }

    private void spoil(StringBuilder t) {
        String other = ";, 0159abrsellerbuyercost\n";
        String[] more = {"seller 1 1;", "buyer 1 1 1;", "broker 1 1;", "cost 1;", "binds 1;", "12345", "seller", ","};
        for (int n = among(1, 2); n > 0; n--) {
            int at = chance.nextInt(t.length() + 1);
            int how = chance.nextInt(5);
            if (how == 0 && at < t.length()) {
                t.deleteCharAt(at);
            } else if (how == 1) {
                t.insert(at, other.charAt(chance.nextInt(other.length())));
            } else if (how == 2) {
                t.insert(chance.nextBoolean() ? t.length() : at, more[chance.nextInt(more.length)]);
            } else if (how == 3) {
                t.setLength(at);
            } else {
                t.insert(t.indexOf(";") + 1, more[chance.nextInt(more.length)]);
            }
        }
    }

    private int[] hands() {
        int p = someone();
        int q = someone();
        if (chance.nextInt(5) == 0) {
            return answers(x.loose(p, q), y.loose(p, q), "loose", p, q);
        }
        return answers(x.hold(p, q), y.hold(p, q), "hold", p, q);
    }

    private String signs() {
        StringBuilder t = new StringBuilder();
        String from = new String[] {"xi", "cxi", "cxidh", "xidh", "xiz", "i", "xxxi"}[chance.nextInt(7)];
        for (int n = chance.nextInt(chance.nextInt(10) == 0 ? 24 : 8); n >= 0; n--) {
            t.append(from.charAt(chance.nextInt(from.length())));
        }
        return t.toString();
    }

    private int[] presses() {
        if (y.told(3) == 0 || chance.nextInt(8) == 0) {
            text(signs());
        }
        if (chance.nextInt(12) == 0) {
            return answers(x.price(), y.price(), "price");
        }
        int p = someone();
        for (int tries = 0; tries < 8 && y.person(p, 2) <= 0; tries++) {
            p = someone();
        }
        int q = partner(p);
        int sellers = y.told(0);
        boolean isBroker = p >= sellers + y.told(1);
        int f = isBroker ? other(p, q) : chance.nextInt(10) == 0 ? someone() : -1;
        int whom = f == -1 ? p : f;
        int lot = whom < sellers ? whom : q < sellers ? q : someLot();
        lot = chance.nextInt(15) == 0 ? someLot() : lot;
        int kind = chance.nextInt(30) == 0 ? among(-1, 3) : chance.nextInt(3) == 0 ? among(1, 2) : 0;
        return answers(x.press(p, q, lot, kind, f), y.press(p, q, lot, kind, f), "press", p, q, lot, kind, f);
    }

    /** Mostly one whose hand p HOLDS. */
    private int partner(int p) {
        int held = y.person(p, 2);
        if (held <= 0 || chance.nextInt(12) == 0) {
            return someone();
        }
        int low = Integer.numberOfTrailingZeros(held);
        int high = 31 - Integer.numberOfLeadingZeros(held);
        return chance.nextBoolean() ? low : high;
    }

    /** Mostly the one besides q whose hand p HOLDS. */
    private int other(int p, int q) {
        int f = partner(p);
        for (int tries = 0; tries < 6 && f == q; tries++) {
            f = partner(p);
        }
        return f;
    }

    private int[] time() {
        int n = chance.nextInt(8) == 0 ? among(-1, 101) : among(1, 6);
        switch (chance.nextInt(4)) {
            case 0:
                n = Math.min(n, 62);
                return answers(x.drift(n), y.drift(n), "drift", n);
            case 1:
                int v = chance.nextInt();
                return answers(x.seed(v), y.seed(v), "seed", v);
            default:
                return answers(x.beat(n), y.beat(n), "beat", n);
        }
    }

    private int[] asked() {
        int p = someone();
        int l = someLot();
        int what = chance.nextInt(10) == 0 ? among(-1, 10) : among(0, 4);
        switch (chance.nextInt(6)) {
            case 0:
                what = among(-1, 10);
                return answers(x.told(what), y.told(what), "told", what);
            case 1:
                return answers(x.worth(someSame(p), l), y.worth(someSame(p), l), "worth", p, l);
            case 2:
                int q = dealer(l);
                what = what % 3;
                return answers(x.bound(q, l, what), y.bound(q, l, what), "bound", q, l, what);
            case 3:
                what = what % 3;
                return answers(x.lot(l, what), y.lot(l, what), "lot", l, what);
            case 4:
                int price = among(-1, 1001);
                return answers(x.twitches(price), y.twitches(price), "twitches", price);
            default:
                return answers(x.person(p, what), y.person(p, what), "person", p, what);
        }
    }

    private int someSame(int p) {
        return p - y.told(0);
    }

    private int[] trades() {
        int l = someLot();
        int b = someBuyer();
        int what = chance.nextInt(10) == 0 ? among(-1, 9) : among(0, 1);
        switch (chance.nextInt(5)) {
            case 0:
                int n = among(-1, 42);
                return answers(x.bargain(l, b, n), y.bargain(l, b, n), "bargain", l, b, n);
            case 1:
                what = among(-1, y.told(0) + 2);
                return answers(x.best(what), y.best(what), "best", what);
            case 2:
                return answers(x.span(l, what), y.span(l, what), "span", l, what);
            case 3:
                return answers(x.meetings(what), y.meetings(what), "meetings", what);
            default:
                int p = dealer(l);
                int rule = chance.nextInt(20) == 0 ? among(-1, 3) : among(0, 2);
                int v = chance.nextInt(20) == 0 ? among(-2, 1001) : chance.nextBoolean() ? among(0, 8) : among(0, 999);
                return answers(x.lie(rule, p, l, v), y.lie(rule, p, l, v), "lie", rule, p, l, v);
        }
    }

    private int[] dear() {
        int what = chance.nextInt(10) == 0 ? among(-1, 2) : among(0, 1);
        boolean isGreat = y.told(0) * y.told(1) > 6;
        if (dearCalls == 0 && isGreat) {
            return answers(x.told(4), y.told(4), "told", 4);
        }
        if (dearCalls > 0 && chance.nextBoolean()) {
            dearCalls--;
            int s = chance.nextInt(3) == 0 ? among(-1, 10000) : among(0, 1200);
            return answers(x.wentFor(s, what), y.wentFor(s, what), "wentFor", s, what);
        }
        int l = someLot();
        int p = dealer(l);
        int rule = chance.nextInt(20) == 0 ? among(-1, 3) : among(0, 2);
        dearCalls -= isGreat ? 1 : 0;
        return answers(x.bestLie(rule, p, l, what), y.bestLie(rule, p, l, what), "bestLie", rule, p, l, what);
    }

    private int[] watched() {
        int l = someLot();
        if (chance.nextInt(8) == 0) {
            return answers(x.forget(), y.forget(), "forget");
        }
        if (chance.nextBoolean()) {
            int w = chance.nextInt(3) == 0 ? among(-1, 61) : among(0, 27);
            int e = chance.nextInt(3) == 0 ? among(-1, 10) : among(0, 3);
            boolean isDouble = chance.nextInt(3) == 0;
            return answers(x.seen(l, w, e, isDouble), y.seen(l, w, e, isDouble), "seen", l, w, e, isDouble);
        }
        int what = among(-1, 3);
        return answers(x.fits(l, what), y.fits(l, what), "fits", l, what);
    }

    private int[] books() {
        int l = someLot();
        switch (chance.nextInt(12)) {
            case 0:
                return answers(x.tear(), y.tear(), "tear");
            case 1: case 2: case 3: case 4:
                return answers(x.judge(), y.judge(), "judge");
            default:
                int p = dealer(l);
                int t = chance.nextInt(10) == 0 ? among(-1, 10001) : y.told(8) * 6 + among(0, 6);
                int price = chance.nextInt(6) == 0 ? among(-1, 1001) : among(1, 20);
                return answers(x.write(t, p, l, price), y.write(t, p, l, price), "write", t, p, l, price);
        }
    }

    private int[] images() {
        int i = chance.nextInt(10) == 0 ? among(-1, 2) : among(0, 1);
        if (chance.nextBoolean()) {
            return answers(x.keep(i), y.keep(i), "keep", i);
        }
        return answers(x.goBack(i), y.goBack(i), "goBack", i);
    }
}
