import java.util.function.Consumer;
import java.util.function.ToIntFunction;

/** Each refusal of each promise, which of several comes first, and that what is refused changes nothing. */
public final class RefusalTest {
    private static final int NONE = ClothPrices.NONE, UNKNOWN = ClothPrices.UNKNOWN, OUTSIDE = ClothPrices.OUTSIDE;
    private static final int NOT = ClothPrices.NOT, FULL = ClothPrices.FULL;
    private static final int LOW = Integer.MIN_VALUE, HIGH = Integer.MAX_VALUE;

    private RefusalTest() {
    }

    public static void main(String[] args) {
        constants();
        theBusyMarket();
        feed();
        market();
        questions();
        hands();
        pressUnknown();
        pressOutside();
        pressNot();
        time();
        trades();
        lies();
        watched();
        books();
        seedAndImages();
        newObject();
        Check.end();
    }

    private static void constants() {
        Check.due("NONE", ClothPrices.NONE, -1);
        Check.due("UNKNOWN", ClothPrices.UNKNOWN, -1000001);
        Check.due("OUTSIDE", ClothPrices.OUTSIDE, -1000002);
        Check.due("NOT", ClothPrices.NOT, -1000003);
        Check.due("FULL", ClothPrices.FULL, -1000004);
    }

    /** The refusals below say little if the market that they leave as it is has nothing to lose. */
    private static void theBusyMarket() {
        ClothPrices x = Twin.after(Twin::busyWithText);
        Check.due("PERSONS", x.told(0) + x.told(1) + x.told(2), 6);
        Check.due("bytes", x.told(3), 3);
        Check.due("BEATS", x.told(4), 3);
        Check.due("SOLD", x.told(7), 1);
        Check.due("BOOK", x.told(8), 2);
        Check.due("SEEN", x.told(9), 2);
        Check.due("SELLER 0 gained", x.person(0, 4), 27);
        Check.due("BROKER 4 gained", x.person(4, 4), 3);
        Check.due("BUYER 2 spent", x.person(2, 4), 30);
        Check.due("SELLER 1 is bound", x.bound(1, 1, 0), 30);
        Check.due("SELLER 1 is bound till", x.bound(1, 1, 1), 8);
        Check.due("BUYER 2 is bound", x.bound(2, 1, 0), 10);
        Check.due("BUYER 3 is bound", x.bound(3, 1, 0), 20);
        Check.due("IMAGE 1", x.goBack(1), NOT);
        Check.due("IMAGE 0", x.goBack(0), 1);
        Check.due("SELLER 1 is not bound yet", x.bound(1, 1, 0), NONE);
        Check.due("THE SEED", x.seed(0), 77);
    }

    private static void refused(String what, int refusal, ToIntFunction<ClothPrices> call) {
        Twin.refused(what, refusal, Twin::busyWithText, call);
    }

    private static void feed() {
        for (int n : new int[] {0, 9, -1, LOW, HIGH}) {
            refused("2 feed n " + n, OUTSIDE, x -> x.feed(n, 0x7878787878787878L));
        }
        Consumer<ClothPrices> full = x -> Check.feed(x, "seller 1 1;" + " ".repeat(489));
        Twin.refused("2 feed FULL", FULL, full, x -> x.feed(1, ';'));
        Twin.refused("2 feed OUTSIDE ahead of FULL", OUTSIDE, full, x -> x.feed(9, ';'));
        Twin.refused("2 feed OUTSIDE ahead of FULL", OUTSIDE, full, x -> x.feed(0, ';'));
        Consumer<ClothPrices> nearlyFull = x -> Check.feed(x, "seller 1 1;" + " ".repeat(482));
        Twin.refused("2 feed beyond 500: not one byte of it", FULL, nearlyFull, x -> x.feed(8, 0x3b3b3b3b3b3b3b3bL));
    }

    /** By a FAULT THE TEXT is empty, all else is as it was. */
    private static void market() {
        String[] texts = {"x", "seller 5 1;seller 0 3;", "cost 7;binds 9;cost 1;", "broker 1 1;seller 1 1;",
            "seller 1 1;buyer 1 9 8;broker 2 50;binds 77", "seller 7 2;".repeat(6) + "buyer 1 1 1,1,1,1,1,1,1;"};
        int[] faults = {1, 2, 3, 4, 1, 1};
        int[] bytes = {0, 20, 15, 11, 43, 87};
        for (int k = 0; k < texts.length; k++) {
            ClothPrices x = Twin.after(Twin::busy);
            Check.feed(x, texts[k]);
            Check.due("3 market of " + texts[k], x.market(), -10 - faults[k]);
            Check.due("4 fault of " + texts[k], x.fault(), bytes[k]);
            Check.due("3 THE TEXT is empty", x.told(3), 0);
            Twin.same("3 market of " + texts[k], x, Twin.after(Twin::busy));
        }
    }

    private static void questions() {
        for (int out : new int[] {-1, 10, LOW, HIGH}) {
            refused("5 told " + out, OUTSIDE, x -> x.told(out));
        }
        for (int p : new int[] {-1, 6, LOW, HIGH}) {
            refused("6 person " + p, UNKNOWN, x -> x.person(p, 0));
            refused("6 person: UNKNOWN ahead of OUTSIDE", UNKNOWN, x -> x.person(p, 5));
            refused("8 bound " + p, UNKNOWN, x -> x.bound(p, 0, 0));
        }
        for (int what : new int[] {-1, 5, LOW, HIGH}) {
            refused("6 person's " + what, OUTSIDE, x -> x.person(5, what));
        }
        for (int out : new int[] {-1, 2, LOW, HIGH}) {
            refused("7 worth, BUYER " + out, UNKNOWN, x -> x.worth(out, 0));
            refused("7 worth, LOT " + out, UNKNOWN, x -> x.worth(0, out));
            refused("8 bound, LOT " + out, UNKNOWN, x -> x.bound(2, out, 0));
            refused("8 bound's " + out, OUTSIDE, x -> x.bound(2, 0, out));
            refused("8 bound's " + out, OUTSIDE, x -> x.bound(1, 1, out));
            refused("9 LOT " + out, UNKNOWN, x -> x.lot(out, 0));
            refused("9 lot's " + out, OUTSIDE, x -> x.lot(0, out));
        }
        refused("8 bound, a BROKER", UNKNOWN, x -> x.bound(4, 0, 0));
        refused("8 bound, another SELLER's LOT", UNKNOWN, x -> x.bound(0, 1, 0));
        refused("8 bound, another SELLER's LOT", UNKNOWN, x -> x.bound(1, 0, 0));
        refused("8 bound: UNKNOWN ahead of OUTSIDE", UNKNOWN, x -> x.bound(5, 0, 2));
        refused("8 bound: UNKNOWN ahead of OUTSIDE", UNKNOWN, x -> x.bound(0, 1, -1));
        refused("8 bound: UNKNOWN ahead of OUTSIDE", UNKNOWN, x -> x.bound(2, 2, 2));
        refused("9 lot: UNKNOWN ahead of OUTSIDE", UNKNOWN, x -> x.lot(2, 2));
    }

    private static void hands() {
        for (int p : new int[] {-1, 6, LOW, HIGH}) {
            refused("10 hold " + p, UNKNOWN, x -> x.hold(p, 5));
            refused("10 hold " + p, UNKNOWN, x -> x.hold(5, p));
            refused("10 hold, neither is there", UNKNOWN, x -> x.hold(p, p));
            refused("11 loose " + p, UNKNOWN, x -> x.loose(p, 0));
            refused("11 loose " + p, UNKNOWN, x -> x.loose(0, p));
        }
        refused("10 hold, one twice", UNKNOWN, x -> x.hold(5, 5));
        refused("11 loose, one twice", UNKNOWN, x -> x.loose(0, 0));
        Consumer<ClothPrices> free = x -> {
            Check.feed(x, Twin.FAIR);
            x.market();
        };
        Twin.refused("10 hold, both SELLERS", NOT, free, x -> x.hold(0, 1));
        Twin.refused("10 hold, both BUYERS", NOT, free, x -> x.hold(3, 2));
        Twin.refused("10 hold, both BROKERS", NOT, free, x -> x.hold(4, 5));
        refused("10 hold, they do already, hands are free", NOT, x -> x.hold(3, 1));
        refused("10 hold, they do already", NOT, x -> x.hold(0, 2));
        refused("10 hold, the first has no free hand", NOT, x -> x.hold(0, 5));
        refused("10 hold, the second has no free hand", NOT, x -> x.hold(5, 2));
        refused("11 loose, they do not", NOT, x -> x.loose(0, 3));
        refused("11 loose, they do not", NOT, x -> x.loose(5, 3));
        refused("11 loose, both of one sort", NOT, x -> x.loose(0, 1));
    }

    private static void pressUnknown() {
        for (int p : new int[] {-1, 6, LOW, HIGH}) {
            refused("12 press of " + p, UNKNOWN, x -> x.press(p, 3, 1, 0, NONE));
            refused("12 press to " + p, UNKNOWN, x -> x.press(3, p, 1, 0, NONE));
        }
        for (int f : new int[] {-2, 6, LOW, HIGH}) {
            refused("12 press for " + f, UNKNOWN, x -> x.press(4, 0, 1, 0, f));
        }
        for (int lot : new int[] {-1, 2, LOW, HIGH}) {
            refused("12 press about " + lot, UNKNOWN, x -> x.press(2, 4, lot, 0, NONE));
        }
        refused("12 press, one twice", UNKNOWN, x -> x.press(3, 3, 1, 0, NONE));
        refused("12 press for p itself", UNKNOWN, x -> x.press(4, 0, 1, 0, 4));
        refused("12 press for p itself", UNKNOWN, x -> x.press(3, 1, 1, 0, 3));
        refused("12 press for a BROKER", UNKNOWN, x -> x.press(4, 0, 1, 0, 5));
        refused("12 press for q", UNKNOWN, x -> x.press(4, 2, 1, 0, 2));
    }

    private static void pressOutside() {
        for (int kind : new int[] {-1, 3, LOW, HIGH}) {
            refused("12 press of KIND " + kind, OUTSIDE, x -> x.press(1, 3, 1, kind, NONE));
            refused("12 press: OUTSIDE ahead of NOT", OUTSIDE, x -> x.press(0, 3, 0, kind, NONE));
            refused("12 press: UNKNOWN ahead of OUTSIDE", UNKNOWN, x -> x.press(1, 3, 2, kind, NONE));
            refused("12 press: UNKNOWN ahead of OUTSIDE", UNKNOWN, x -> x.press(1, 6, 1, kind, NONE));
            refused("12 press: UNKNOWN ahead of OUTSIDE", UNKNOWN, x -> x.press(4, 2, 1, kind, 5));
        }
        refused("12 press: UNKNOWN ahead of NOT", UNKNOWN, x -> x.press(0, 3, 9, 0, NONE));
    }

    private static void pressIsNot(String what, String text, ToIntFunction<ClothPrices> call) {
        Twin.pressRefused("12 press, " + what, Twin::busy, text, call);
    }

    private static void pressNot() {
        pressIsNot("an empty text", "", x -> x.press(1, 3, 1, 1, NONE));
        pressIsNot("no PRESS", "xih", x -> x.press(1, 3, 1, 1, NONE));
        pressIsNot("21 bytes", "i".repeat(21), x -> x.press(1, 3, 1, 1, NONE));
        pressIsNot("500 bytes", "i".repeat(500), x -> x.press(1, 3, 1, 1, NONE));
        pressIsNot("1000", "cccccd", x -> x.press(1, 3, 1, 1, NONE));
        pressIsNot("twice 500", "ccccc", x -> x.press(1, 3, 1, 2, NONE));
        pressIsNot("hands are not held", "x", x -> x.press(1, 2, 1, 1, NONE));
        pressIsNot("a SELLER about another's LOT", "x", x -> x.press(1, 3, 0, 1, NONE));
        pressIsNot("a BUYER to a SELLER about another's LOT", "x", x -> x.press(2, 0, 1, 1, NONE));
        pressIsNot("a SELLER for another", "x", x -> x.press(1, 3, 1, 1, 2));
        pressIsNot("a BUYER for another", "x", x -> x.press(3, 1, 1, 1, 2));
        pressIsNot("a BROKER for itself", "x", x -> x.press(4, 2, 1, 1, NONE));
        pressIsNot("a BROKER for one whose hand it does not HOLD", "x", x -> x.press(4, 2, 1, 1, 1));
        pressIsNot("bound already", "x", x -> x.press(1, 3, 1, 0, NONE));
        pressIsNot("bound already", "x", x -> x.press(2, 4, 1, 0, NONE));
        pressIsNot("bound already, double", "x", x -> x.press(3, 1, 1, 2, NONE));
        for (int kind = 0; kind <= 2; kind++) {
            int k = kind;
            pressIsNot("SOLD, KIND " + k, "x", x -> x.press(0, 2, 0, k, NONE));
            pressIsNot("SOLD, KIND " + k, "x", x -> x.press(2, 0, 0, k, NONE));
            pressIsNot("SOLD, KIND " + k, "x", x -> x.press(4, 0, 0, k, 2));
        }
        Consumer<ClothPrices> poor = x -> {
            Check.feed(x, Twin.FAIR);
            x.market();
            x.hold(2, 0);
            x.hold(3, 0);
        };
        Twin.pressRefused("12 press, beyond the PURSE", poor, "xxxxxxxxxi", x -> x.press(2, 0, 0, 0, NONE));
        Twin.pressRefused("12 press, twice beyond the PURSE", poor, "cxxxxxi", x -> x.press(3, 0, 0, 2, NONE));
    }

    private static void time() {
        for (int n : new int[] {0, -1, 100, LOW, HIGH}) {
            refused("15 beat " + n, OUTSIDE, x -> x.beat(n));
        }
        for (int n : new int[] {0, -1, 61, LOW, HIGH}) {
            refused("16 drift " + n, OUTSIDE, x -> x.drift(n));
        }
        for (int price : new int[] {0, -1, 1000, LOW, HIGH}) {
            refused("14 twitches of " + price, OUTSIDE, x -> x.twitches(price));
        }
    }

    private static void trades() {
        for (int out : new int[] {-1, 2, LOW, HIGH}) {
            refused("17 bargain, SELLER " + out, UNKNOWN, x -> x.bargain(out, 0, 1));
            refused("17 bargain, BUYER " + out, UNKNOWN, x -> x.bargain(0, out, 1));
            refused("19 span, LOT " + out, UNKNOWN, x -> x.span(out, 0));
            refused("19 span's " + out, OUTSIDE, x -> x.span(0, out));
            refused("26 meetings' " + out, OUTSIDE, x -> x.meetings(out));
        }
        for (int n : new int[] {0, -1, 41, LOW, HIGH}) {
            refused("17 bargain of " + n, OUTSIDE, x -> x.bargain(0, 0, n));
            refused("17 bargain: UNKNOWN ahead of OUTSIDE", UNKNOWN, x -> x.bargain(2, 0, n));
            refused("17 bargain: UNKNOWN ahead of OUTSIDE", UNKNOWN, x -> x.bargain(0, 2, n));
        }
        for (int what : new int[] {-1, 4, LOW, HIGH}) {
            refused("18 best's " + what, OUTSIDE, x -> x.best(what));
        }
        refused("19 span: UNKNOWN ahead of OUTSIDE", UNKNOWN, x -> x.span(2, 2));
    }

    private static void lies() {
        for (int p : new int[] {-1, 4, 5, 6, LOW, HIGH}) {
            refused("20 lie of " + p, UNKNOWN, x -> x.lie(0, p, 0, 5));
            refused("21 bestLie of " + p, UNKNOWN, x -> x.bestLie(0, p, 0, 0));
            refused("20 lie: UNKNOWN ahead of OUTSIDE", UNKNOWN, x -> x.lie(3, p, 0, 1000));
            refused("21 bestLie: UNKNOWN ahead of OUTSIDE", UNKNOWN, x -> x.bestLie(3, p, 0, 2));
        }
        for (int l : new int[] {-1, 2, LOW, HIGH}) {
            refused("20 lie about " + l, UNKNOWN, x -> x.lie(0, 2, l, 5));
            refused("21 bestLie about " + l, UNKNOWN, x -> x.bestLie(0, 2, l, 0));
        }
        refused("20 lie about another SELLER's LOT", UNKNOWN, x -> x.lie(0, 0, 1, 5));
        refused("20 lie about another SELLER's LOT", UNKNOWN, x -> x.lie(0, 1, 0, 5));
        refused("21 bestLie about another SELLER's LOT", UNKNOWN, x -> x.bestLie(0, 1, 0, 0));
        for (int rule : new int[] {-1, 3, LOW, HIGH}) {
            refused("20 lie by RULE " + rule, OUTSIDE, x -> x.lie(rule, 0, 0, 5));
            refused("21 bestLie by RULE " + rule, OUTSIDE, x -> x.bestLie(rule, 0, 0, 0));
        }
        for (int v : new int[] {-1, 1000, LOW, HIGH}) {
            refused("20 lie of v " + v, OUTSIDE, x -> x.lie(0, 0, 0, v));
            refused("20 lie of v " + v, OUTSIDE, x -> x.lie(2, 3, 1, v));
        }
        for (int what : new int[] {-1, 2, LOW, HIGH}) {
            refused("21 bestLie's " + what, OUTSIDE, x -> x.bestLie(0, 0, 0, what));
        }
    }

    private static void watched() {
        for (int l : new int[] {-1, 2, LOW, HIGH}) {
            refused("22 seen of " + l, UNKNOWN, x -> x.seen(l, 1, 1, false));
            refused("22 seen: UNKNOWN ahead of OUTSIDE", UNKNOWN, x -> x.seen(l, 61, 10, false));
            refused("24 fits of " + l, UNKNOWN, x -> x.fits(l, 0));
            refused("24 fits: UNKNOWN ahead of OUTSIDE", UNKNOWN, x -> x.fits(l, 3));
        }
        for (int w : new int[] {-1, 61, LOW, HIGH}) {
            refused("22 seen w " + w, OUTSIDE, x -> x.seen(0, w, 0, false));
        }
        for (int e : new int[] {-1, 10, LOW, HIGH}) {
            refused("22 seen e " + e, OUTSIDE, x -> x.seen(0, 5, e, true));
        }
        Consumer<ClothPrices> ten = x -> {
            Twin.busy(x);
            for (int k = 0; k < 8; k++) {
                x.seen(k % 2, 5, 2, false);
            }
        };
        Twin.refused("22 an eleventh", FULL, ten, x -> x.seen(0, 0, 0, false));
        Twin.refused("22 an eleventh", FULL, ten, x -> x.seen(1, 60, 9, true));
        Twin.refused("22 OUTSIDE ahead of FULL", OUTSIDE, ten, x -> x.seen(0, 61, 0, false));
        Twin.refused("22 OUTSIDE ahead of FULL", OUTSIDE, ten, x -> x.seen(0, 0, 10, false));
        Twin.refused("22 UNKNOWN ahead of FULL", UNKNOWN, ten, x -> x.seen(2, 0, 0, false));
        for (int what : new int[] {-1, 3, LOW, HIGH}) {
            refused("24 fits' " + what, OUTSIDE, x -> x.fits(0, what));
        }
        for (int s : new int[] {-1, 10000, LOW, HIGH}) {
            refused("25 wentFor " + s, OUTSIDE, x -> x.wentFor(s, 0));
            refused("25 wentFor " + s, OUTSIDE, x -> x.wentFor(s, 1));
        }
        for (int what : new int[] {-1, 2, LOW, HIGH}) {
            refused("25 wentFor's " + what, OUTSIDE, x -> x.wentFor(30, what));
        }
    }

    private static void books() {
        for (int p : new int[] {-1, 4, 5, 6, LOW, HIGH}) {
            refused("27 write of " + p, UNKNOWN, x -> x.write(3, p, 0, 5));
            refused("27 write: UNKNOWN ahead of OUTSIDE", UNKNOWN, x -> x.write(-1, p, 0, 0));
        }
        for (int lot : new int[] {-1, 2, LOW, HIGH}) {
            refused("27 write about " + lot, UNKNOWN, x -> x.write(3, 2, lot, 5));
        }
        refused("27 write about another SELLER's LOT", UNKNOWN, x -> x.write(3, 0, 1, 5));
        refused("27 write about another SELLER's LOT", UNKNOWN, x -> x.write(3, 1, 0, 5));
        for (int beat : new int[] {-1, 10000, LOW, HIGH}) {
            refused("27 write of BEAT " + beat, OUTSIDE, x -> x.write(beat, 3, 0, 5));
        }
        for (int price : new int[] {0, -1, 1000, LOW, HIGH}) {
            refused("27 write of price " + price, OUTSIDE, x -> x.write(3, 3, 0, price));
        }
        Consumer<ClothPrices> thirty = x -> {
            Twin.busy(x);
            for (int k = 0; k < 28; k++) {
                x.write(8 + 5 * k, 3, 1, 5);
            }
        };
        Check.due("29 thirty that are right", Twin.after(thirty).judge(), NONE);
        Twin.refused("27 a thirty-first", FULL, thirty, x -> x.write(0, 3, 0, 5));
        Twin.refused("27 a thirty-first", FULL, thirty, x -> x.write(9999, 2, 0, 999));
        Twin.refused("27 OUTSIDE ahead of FULL", OUTSIDE, thirty, x -> x.write(10000, 2, 0, 5));
        Twin.refused("27 OUTSIDE ahead of FULL", OUTSIDE, thirty, x -> x.write(200, 2, 0, 0));
        Twin.refused("27 UNKNOWN ahead of FULL", UNKNOWN, thirty, x -> x.write(200, 4, 0, 5));
    }

    private static void seedAndImages() {
        for (int v : new int[] {-1, LOW}) {
            refused("30 seed " + v, OUTSIDE, x -> x.seed(v));
        }
        for (int i : new int[] {-1, 2, LOW, HIGH}) {
            refused("31 keep " + i, UNKNOWN, x -> x.keep(i));
            refused("32 goBack " + i, UNKNOWN, x -> x.goBack(i));
        }
        refused("32 goBack, not kept", NOT, x -> x.goBack(1));
    }

    /** No PERSONS: whoever is named is not there. */
    private static void newObject() {
        Consumer<ClothPrices> nothing = x -> Check.feed(x, "x");
        Twin.refused("1 person", UNKNOWN, nothing, x -> x.person(0, 0));
        Twin.refused("1 worth", UNKNOWN, nothing, x -> x.worth(0, 0));
        Twin.refused("1 bound", UNKNOWN, nothing, x -> x.bound(0, 0, 0));
        Twin.refused("1 lot", UNKNOWN, nothing, x -> x.lot(0, 0));
        Twin.refused("1 hold", UNKNOWN, nothing, x -> x.hold(0, 1));
        Twin.refused("1 loose", UNKNOWN, nothing, x -> x.loose(0, 1));
        Twin.refused("1 press", UNKNOWN, nothing, x -> x.press(0, 1, 0, 0, NONE));
        Twin.refused("1 bargain", UNKNOWN, nothing, x -> x.bargain(0, 0, 1));
        Twin.refused("1 best", OUTSIDE, nothing, x -> x.best(2));
        Twin.refused("1 span", UNKNOWN, nothing, x -> x.span(0, 0));
        Twin.refused("1 lie", UNKNOWN, nothing, x -> x.lie(0, 0, 0, 0));
        Twin.refused("1 bestLie", UNKNOWN, nothing, x -> x.bestLie(0, 0, 0, 0));
        Twin.refused("1 seen", UNKNOWN, nothing, x -> x.seen(0, 1, 1, false));
        Twin.refused("1 fits", UNKNOWN, nothing, x -> x.fits(0, 0));
        Twin.refused("1 write", UNKNOWN, nothing, x -> x.write(0, 0, 0, 1));
        Twin.refused("1 goBack", NOT, nothing, x -> x.goBack(0));
        Twin.refused("1 goBack", NOT, nothing, x -> x.goBack(1));
    }
}
