/** Part 2 of the document and promises 10 to 15: each boundary that they name, on both sides. */
public final class PressEdgeTest {
    private static final int NONE = ClothPrices.NONE, UNKNOWN = ClothPrices.UNKNOWN, OUTSIDE = ClothPrices.OUTSIDE;
    private static final int NOT = ClothPrices.NOT;
    private static final int PLAIN = 0, VOID = 1, DOUBLE = 2;

    private PressEdgeTest() {
    }

    public static void main(String[] args) {
        lengths();
        halves();
        ends();
        otherBytes();
        twitches();
        sorts();
        freeHands();
        heldHands();
        textTaken();
        lotsOfAPress();
        brokerPresses();
        binding();
        bindingsOfBoth();
        saleInTime();
        doubles();
        voids();
        purse();
        purseBesides();
        pursesOfSix();
        purseSpent();
        purseFreed();
        saleAtLikePrice();
        likeBuyers();
        greatestBuyer();
        soldLot();
        brokerHoldsBoth();
        fees();
        beats();
        Check.end();
    }

    private static void due(String call, long got, long want) {
        Check.due(call, got, want);
    }

    private static void pressed(String text, int price) {
        ClothPrices x = new ClothPrices();
        Check.feed(x, text);
        due("13 price of " + text, x.price(), price);
        due("13 THE TEXT stays", x.told(3), text.length());
        ClothPrices y = Check.market("seller 1 1;buyer 1 1 1;");
        y.hold(0, 1);
        due("12 press of " + text, Check.press(y, text, 0, 1, 0, PLAIN, NONE), price == NONE ? NOT : price);
        due("12 THE TEXT is empty", y.told(3), 0);
        due("12 bound by " + text, y.bound(0, 0, 0), price);
    }

    private static int press(ClothPrices x, int price, int p, int q, int lot, int kind) {
        return Check.press(x, Check.signs(price), p, q, lot, kind, NONE);
    }

    private static void lengths() {
        pressed("i".repeat(20), 20);
        pressed("i".repeat(21), NONE);
        pressed("h".repeat(19) + "i", 1);
        pressed("h".repeat(20) + "i", NONE);
        pressed("i" + "dh".repeat(9) + "i", 2);
        pressed("i" + "dh".repeat(10), NONE);
        pressed("i".repeat(500), NONE);
        pressed("i", 1);
        pressed("", NONE);
    }

    private static void halves() {
        pressed("iih", 1);
        pressed("ih", NONE);
        pressed("ihdi", NONE);
        pressed("hi", 1);
        pressed("h", NONE);
        pressed("xh", 5);
        pressed("xhh", NONE);
        pressed("chh", 25);
        pressed("chhh", NONE);
        pressed("chhhi", NONE);
        pressed("cccccccccciih", 501);
        pressed("ccccccccccih", NONE);
        pressed("cxih", NONE);
    }

    private static void ends() {
        for (int v = 1; v <= 999; v++) {
            pressed(Check.signs(v), v);
        }
        for (int v = 1000; v <= 1023; v++) {
            pressed(Check.signs(v), NONE);
        }
        for (String nothing : new String[] {"", "d", "h", "dh", "hd", "dddd"}) {
            pressed(nothing, NONE);
        }
        pressed(Check.signs(1000) + "h", 500);
        pressed(Check.signs(1998) + "h", 999);
        pressed(Check.signs(1999) + "h", NONE);
        pressed(Check.signs(2000) + "h", NONE);
        pressed("cccccccccc", NONE);
        pressed("ccccccccc", 900);
        pressed("cccccd", NONE);
        pressed("ccccd", 800);
        pressed("c" + "d".repeat(9) + "h".repeat(10), 50);
        pressed("c" + "d".repeat(19), NONE);
        pressed("ccccccccccccccccccch", 950);
    }

    private static void otherBytes() {
        for (int b = 0; b < 256; b++) {
            char c = (char) b;
            pressed("" + c, c == 'c' ? 100 : c == 'x' ? 10 : c == 'i' ? 1 : NONE);
            pressed("ii" + c, c == 'c' ? 102 : c == 'x' ? 12 : c == 'i' ? 3 : c == 'd' ? 4 : c == 'h' ? 1 : NONE);
            boolean isSign = "cxidh".indexOf(c) >= 0;
            pressed(c + "i", c == 'c' ? 101 : c == 'x' ? 11 : c == 'i' ? 2 : isSign ? 1 : NONE);
        }
        pressed(" i", NONE);
        pressed("i ", NONE);
    }

    /** The fewest signs, found by trying each last sign. */
    private static void twitches() {
        ClothPrices x = new ClothPrices();
        ClothPrices y = new ClothPrices();
        int[] fewest = new int[1000];
        for (int v = 1; v <= 999; v++) {
            fewest[v] = 1 + fewest[v - 1];
            fewest[v] = v >= 10 ? Math.min(fewest[v], 1 + fewest[v - 10]) : fewest[v];
            fewest[v] = v >= 100 ? Math.min(fewest[v], 1 + fewest[v - 100]) : fewest[v];
            due("14 twitches of " + v, (v % 2 == 0 ? x : y).twitches(v), fewest[v]);
        }
        due("14 the most", fewest[999], 27);
        due("14 of 0", x.twitches(0), OUTSIDE);
        due("14 of 1000", x.twitches(1000), OUTSIDE);
    }

    private static void sorts() {
        String text = "seller 1 2;seller 1 2;buyer 2 1 1,1;buyer 2 1 1,1;broker 2 1;broker 2 1;";
        for (int p = 0; p < 6; p++) {
            for (int q = 0; q < 6; q++) {
                ClothPrices x = Check.market(text);
                due("10 hold " + p + ", " + q, x.hold(p, q), p == q ? UNKNOWN : p / 2 == q / 2 ? NOT : 1);
                due("6 held", x.person(p, 2), p / 2 == q / 2 ? 0 : 1 << q);
                due("6 held", x.person(q, 2), p / 2 == q / 2 ? 0 : 1 << p);
                due("11 loose", x.loose(q, p), p == q ? UNKNOWN : p / 2 == q / 2 ? NOT : 1);
                due("6 no more held", x.person(p, 2), 0);
                due("11 once only", x.loose(p, q), p == q ? UNKNOWN : NOT);
            }
        }
    }

    /** One hand or two: the last one that is free, and none. */
    private static void freeHands() {
        for (int hands = 1; hands <= 2; hands++) {
            ClothPrices x = Check.market("seller 1 " + hands + ";buyer 1 1 1;buyer 1 1 1;buyer 1 1 1;broker 2 1;");
            for (int b = 1; b <= 3; b++) {
                due("6 free", x.person(0, 1), Math.max(0, hands - b + 1));
                due("10 hold", b % 2 == 0 ? x.hold(0, b) : x.hold(b, 0), b <= hands ? 1 : NOT);
                due("6 the other's", x.person(b, 1), b <= hands ? 0 : 1);
            }
            due("10 the other has none free", x.hold(4, 1), NOT);
            due("11 loose", x.loose(1, 0), 1);
            due("10 it is free again", x.hold(4, 1), 1);
            due("10 the SELLER's, too", x.hold(3, 0), 1);
            due("6 free", x.person(0, 1), 0);
        }
    }

    private static void heldHands() {
        ClothPrices x = Check.market("seller 1 1;buyer 1 100 1;");
        due("12 not held yet", press(x, 10, 0, 1, 0, PLAIN), NOT);
        x.hold(1, 0);
        due("12 held", press(x, 10, 0, 1, 0, PLAIN), 10);
        x.loose(0, 1);
        due("8 bound still", x.bound(0, 0, 0), 10);
        due("12 no more held", press(x, 9, 1, 0, 0, VOID), NOT);
    }

    private static void textTaken() {
        ClothPrices x = Check.market("seller 1 1;buyer 1 100 1;");
        x.hold(0, 1);
        Check.feed(x, "xi");
        due("12 UNKNOWN", x.press(0, 2, 0, PLAIN, NONE), UNKNOWN);
        due("12 it stays", x.price(), 11);
        due("12 OUTSIDE", x.press(0, 1, 0, 3, NONE), OUTSIDE);
        due("12 it stays", x.price(), 11);
        due("12 pressed", x.press(0, 1, 0, DOUBLE, NONE), 22);
        due("12 it is empty", x.told(3), 0);
        Check.feed(x, "xi");
        due("12 NOT", x.press(0, 1, 0, PLAIN, NONE), NOT);
        due("12 it is empty", x.told(3), 0);
        due("12 of nothing", x.press(0, 1, 0, VOID, NONE), NOT);
    }

    private static void lotsOfAPress() {
        ClothPrices x = Check.market("seller 1 2;seller 1 2;buyer 2 100 1,1;buyer 2 100 1,1;broker 2 1;broker 2 1;");
        x.hold(0, 2);
        x.hold(0, 4);
        x.hold(2, 4);
        for (int lot = 0; lot < 2; lot++) {
            due("12 a SELLER to a BUYER: its own", press(x, 5, 0, 2, lot, VOID), lot == 0 ? 5 : NOT);
            due("12 a SELLER to a BROKER: its own", press(x, 5, 0, 4, lot, VOID), lot == 0 ? 5 : NOT);
            due("12 a BUYER to a SELLER: q's own", press(x, 5, 2, 0, lot, VOID), lot == 0 ? 5 : NOT);
            due("12 a BUYER to a BROKER: any", press(x, 5, 2, 4, lot, VOID), 5);
        }
        due("12 no LOT", press(x, 5, 2, 4, 2, VOID), UNKNOWN);
    }

    private static int pressFor(ClothPrices x, int f, int q, int lot, int kind) {
        return Check.press(x, "iiiii", 4, q, lot, kind, f);
    }

    /** A BROKER HOLDS q and f: for a SELLER its own LOT, for a BUYER to a SELLER q's own, to a BUYER any. */
    private static void brokerPresses() {
        ClothPrices x = Check.market("seller 1 2;seller 1 2;buyer 2 100 1,1;buyer 2 100 1,1;broker 2 1;broker 2 1;");
        int[][] pairs = {{0, 1}, {1, 0}, {0, 2}, {2, 0}, {1, 3}, {3, 1}, {2, 3}, {3, 2}};
        for (int[] pair : pairs) {
            int f = pair[0];
            int q = pair[1];
            due("12 neither held", pressFor(x, f, q, f < 2 ? f : q < 2 ? q : 0, VOID), NOT);
            x.hold(4, f);
            due("12 f alone held", pressFor(x, f, q, f < 2 ? f : q < 2 ? q : 0, VOID), NOT);
            x.hold(4, q);
            for (int lot = 0; lot < 2; lot++) {
                boolean may = f < 2 ? lot == f : q > 1 || lot == q;
                due("12 for " + f + " to " + q + " about " + lot, pressFor(x, f, q, lot, VOID), may ? 5 : NOT);
                due("12 void: " + f + " is not bound", f < 2 && lot != f ? NONE : x.bound(f, lot, 0), NONE);
            }
            x.loose(4, f);
            due("12 q alone held", pressFor(x, f, q, f < 2 ? f : q < 2 ? q : 0, VOID), NOT);
            x.loose(4, q);
        }
        x.hold(4, 2);
        x.hold(4, 1);
        due("12 for BUYER 2", pressFor(x, 2, 1, 1, DOUBLE), 10);
        due("8 f is bound", x.bound(2, 1, 0), 10);
        due("8 q is not", x.bound(1, 1, 0), NONE);
        due("12 f is bound already", pressFor(x, 2, 1, 1, PLAIN), NOT);
        due("12 for SELLER 1", pressFor(x, 1, 2, 1, PLAIN), 5);
        due("9 SOLD", x.lot(1, 0), 0);
        due("9 SOLD for", x.lot(1, 1), 5);
    }

    /** Bound till BEAT now and N, not at it. */
    private static void binding() {
        for (int n : new int[] {1, 2, 12, 50, 99}) {
            for (int from : new int[] {0, 7, 99}) {
                ClothPrices x = Check.market((n == 12 ? "" : "binds " + n + ";") + "seller 1 1;buyer 1 9999 5;");
                x.hold(0, 1);
                if (from > 0) {
                    x.beat(from);
                }
                due("12 bound", press(x, 200, 0, 1, 0, PLAIN), 200);
                due("8 till now and N", x.bound(0, 0, 1), from + n);
                if (n > 1) {
                    x.beat(n - 1);
                }
                due("8 still bound", x.bound(0, 0, 0), 200);
                due("8 still bound till", x.bound(0, 0, 1), from + n);
                due("12 not again yet", press(x, 300, 0, 1, 0, PLAIN), NOT);
                due("12 not again yet, double", press(x, 300, 0, 1, 0, DOUBLE), NOT);
                x.beat(1);
                due("8 over", x.bound(0, 0, 0), NONE);
                due("8 over", x.bound(0, 0, 1), NONE);
                due("12 again", press(x, 300, 0, 1, 0, PLAIN), 300);
                due("8 bound anew", x.bound(0, 0, 0), 300);
                due("8 bound anew till", x.bound(0, 0, 1), from + n + n);
            }
        }
    }

    /** Each PERSON, each LOT is bound for itself. */
    private static void bindingsOfBoth() {
        ClothPrices x = Check.market("binds 3;seller 1 1;seller 1 1;buyer 1 99 5,5;broker 2 0;");
        x.hold(2, 3);
        due("12 LOT 0", press(x, 10, 2, 3, 0, PLAIN), 10);
        x.beat(2);
        due("12 LOT 1", press(x, 20, 2, 3, 1, PLAIN), 20);
        due("12 LOT 0 not again", press(x, 11, 2, 3, 0, PLAIN), NOT);
        x.beat(1);
        due("8 LOT 0 is over", x.bound(2, 0, 0), NONE);
        due("8 LOT 1 is not", x.bound(2, 1, 1), 5);
        due("12 LOT 0 again", press(x, 11, 2, 3, 0, PLAIN), 11);
        due("12 LOT 1 not again", press(x, 11, 2, 3, 1, PLAIN), NOT);
    }

    /** A sale needs both to be bound at one BEAT, whoever was first. */
    private static void saleInTime() {
        for (int first = 0; first < 2; first++) {
            for (int wait : new int[] {4, 5}) {
                ClothPrices x = Check.market("binds 5;seller 1 1;buyer 1 999 5;");
                x.hold(0, 1);
                due("12 first", press(x, 20, first, 1 - first, 0, PLAIN), 20);
                x.beat(wait);
                due("12 second", press(x, 20, 1 - first, first, 0, PLAIN), 20);
                due("9 SOLD in time alone", x.lot(0, 0), wait == 4 ? 0 : NONE);
                due("9 for", x.lot(0, 1), wait == 4 ? 20 : NONE);
                due("8 bound, if not SOLD", x.bound(1 - first, 0, 0), wait == 4 ? NONE : 20);
            }
        }
    }

    private static void doubles() {
        for (int pressed : new int[] {1, 250, 499, 500, 501, 999}) {
            ClothPrices x = Check.market("seller 1 1;buyer 1 9999 1;");
            x.hold(0, 1);
            int due = pressed <= 499 ? 2 * pressed : NOT;
            due("12 twice " + pressed, press(x, pressed, 0, 1, 0, DOUBLE), due);
            due("8 bound to twice " + pressed, x.bound(0, 0, 0), due == NOT ? NONE : due);
            due("12 twice " + pressed, press(x, pressed, 1, 0, 0, DOUBLE), due);
            due("9 SOLD for twice " + pressed, x.lot(0, 1), due == NOT ? NONE : due);
        }
        for (int purse : new int[] {9, 10, 11}) {
            ClothPrices x = Check.market("seller 1 1;buyer 1 " + purse + " 1;");
            x.hold(0, 1);
            due("12 twice 5 of " + purse, press(x, 5, 1, 0, 0, DOUBLE), purse < 10 ? NOT : 10);
        }
    }

    /** A void PRESS binds nobody: neither PURSE nor what is bound is in its way, but a SOLD LOT is. */
    private static void voids() {
        ClothPrices x = Check.market("seller 1 1;buyer 1 0 1;");
        x.hold(0, 1);
        due("12 the greatest", press(x, 999, 1, 0, 0, VOID), 999);
        due("12 the least", press(x, 1, 1, 0, 0, VOID), 1);
        due("12 beyond it", press(x, 1000, 1, 0, 0, VOID), NOT);
        due("8 not bound", x.bound(1, 0, 0), NONE);
        due("12 the PURSE is empty", press(x, 1, 1, 0, 0, PLAIN), NOT);
        due("12 bound", press(x, 5, 0, 1, 0, PLAIN), 5);
        due("12 void, though bound", press(x, 7, 0, 1, 0, VOID), 7);
        due("8 as it was", x.bound(0, 0, 0), 5);
        due("12 void", press(x, 5, 1, 0, 0, VOID), 5);
        due("9 not SOLD by it", x.lot(0, 0), NONE);
    }

    private static void purse() {
        for (int purse : new int[] {0, 1, 90, 998, 999, 9999}) {
            for (int more = 0; more < 2; more++) {
                int price = Math.min(purse, 999) + more;
                ClothPrices x = Check.market("seller 1 1;buyer 1 " + purse + " 1;");
                x.hold(0, 1);
                int due = price == 0 || price > 999 || price > purse ? NOT : price;
                due("12 " + price + " of " + purse, press(x, price, 1, 0, 0, PLAIN), due);
                due("8 bound", x.bound(1, 0, 0), due == NOT ? NONE : due);
                due("12 a SELLER has none", press(x, 999, 0, 1, 0, PLAIN), 999);
            }
        }
    }

    /** Less all to which it is bound about LOTS besides, till that is over. */
    private static void purseBesides() {
        ClothPrices x = Check.market("binds 4;seller 1 1;seller 1 1;seller 1 1;buyer 1 100 1,1,1;broker 2 1;");
        x.hold(3, 4);
        due("12 LOT 0", press(x, 60, 3, 4, 0, PLAIN), 60);
        due("12 LOT 1, one too many", press(x, 41, 3, 4, 1, PLAIN), NOT);
        due("12 LOT 1, just enough", press(x, 40, 3, 4, 1, PLAIN), 40);
        due("12 LOT 2, nothing is left", press(x, 1, 3, 4, 2, PLAIN), NOT);
        x.beat(3);
        due("12 nothing is left yet", press(x, 1, 3, 4, 2, PLAIN), NOT);
        x.beat(1);
        due("12 all is over: one too many", press(x, 101, 3, 4, 2, PLAIN), NOT);
        due("12 all is over: just enough", press(x, 100, 3, 4, 2, PLAIN), 100);
        x.beat(4);
        due("12 about the LOT itself", press(x, 100, 3, 4, 2, PLAIN), 100);
    }

    /** As many LOTS as can be: what another PERSON is bound to is no part of it. */
    private static void pursesOfSix() {
        ClothPrices x = Check.market("seller 1 1;".repeat(6) + "buyer 1 100 1,1,1,1,1,1;".repeat(6) + "broker 2 1;");
        for (int b = 5; b >= 0; b--) {
            x.hold(6 + b, 12);
            for (int l = 0; l < 5; l++) {
                due("12 BUYER " + b, press(x, 8 + 2 * l, 6 + b, 12, l, PLAIN), 8 + 2 * l);
            }
            due("12 BUYER " + b + ", one too many", press(x, 41, 6 + b, 12, 5, PLAIN), NOT);
            due("12 BUYER " + b + ", just enough", press(x, 40, 6 + b, 12, 5, PLAIN), 40);
            x.loose(6 + b, 12);
        }
    }

    /** Less what it spent: what was asked, not what was offered. */
    private static void purseSpent() {
        for (int more = 0; more < 2; more++) {
            ClothPrices x = Check.market("seller 1 1;seller 1 1;seller 1 1;buyer 2 100 1,1,1;broker 2 1;");
            x.hold(3, 4);
            x.hold(3, 0);
            press(x, 60, 3, 4, 0, PLAIN);
            press(x, 10, 3, 4, 1, PLAIN);
            due("12 SOLD", press(x, 50, 0, 3, 0, PLAIN), 50);
            due("6 spent", x.person(3, 4), 50);
            due("12 100 less 10 less 50", press(x, 40 + more, 3, 4, 2, PLAIN), more == 0 ? 40 : NOT);
            x.beat(12);
            due("12 100 less 50", press(x, 50 + more, 3, 4, 1, PLAIN), more == 0 ? 50 : NOT);
            x.beat(99);
            due("12 what is spent stays so", press(x, 50 + more, 3, 4, 1, PLAIN), more == 0 ? 50 : NOT);
        }
    }

    /** All that is bound about a SOLD LOT is over: another BUYER may be bound to all that it has. */
    private static void purseFreed() {
        ClothPrices x = Check.market("seller 1 2;seller 1 1;buyer 1 100 1,1;buyer 2 100 1,1;broker 1 1;");
        x.hold(0, 2);
        x.hold(0, 3);
        x.hold(3, 4);
        press(x, 80, 3, 0, 0, PLAIN);
        press(x, 90, 2, 0, 0, PLAIN);
        due("12 not yet", press(x, 21, 3, 4, 1, PLAIN), NOT);
        press(x, 70, 0, 2, 0, PLAIN);
        due("9 SOLD to the other", x.lot(0, 0), 0);
        due("8 over", x.bound(3, 0, 0), NONE);
        due("6 spent nothing", x.person(3, 4), 0);
        due("12 one too many", press(x, 101, 3, 4, 1, PLAIN), NOT);
        due("12 all that it has", press(x, 100, 3, 4, 1, PLAIN), 100);
    }

    private static void saleAtLikePrice() {
        for (int asked : new int[] {1, 2, 500, 999}) {
            for (int less = 0; less < 2; less++) {
                if (asked - less < 1) {
                    continue;
                }
                ClothPrices x = Check.market("seller 1 1;buyer 1 999 1;");
                x.hold(0, 1);
                press(x, asked, 0, 1, 0, PLAIN);
                due("12", press(x, asked - less, 1, 0, 0, PLAIN), asked - less);
                due("9 SOLD to", x.lot(0, 0), less == 0 ? 0 : NONE);
                due("9 SOLD for", x.lot(0, 1), less == 0 ? asked : NONE);
                due("5 a SET", x.told(7), less == 0 ? 1 : 0);
                due("6 gained", x.person(0, 4), less == 0 ? asked : 0);
                due("6 spent", x.person(1, 4), less == 0 ? asked : 0);
                due("8 the SELLER's is over", x.bound(0, 0, 0), less == 0 ? NONE : asked);
                due("8 the BUYER's is over", x.bound(1, 0, 1), less == 0 ? NONE : 12);
            }
        }
    }

    private static ClothPrices sixBuyers(int... prices) {
        ClothPrices x = Check.market("seller 1 2;" + "buyer 1 999 1;".repeat(6));
        for (int b = 5; b >= 0; b--) {
            x.hold(0, 1 + b);
            due("12 BUYER " + b, press(x, prices[b], 1 + b, 0, 0, PLAIN), prices[b]);
            x.loose(0, 1 + b);
        }
        x.hold(0, 1);
        return x;
    }

    private static void soldTo(int buyer, int asked, int... prices) {
        ClothPrices x = sixBuyers(prices);
        due("12 asked", press(x, asked, 0, 1, 0, PLAIN), asked);
        due("9 SOLD to", x.lot(0, 0), buyer);
        due("9 SOLD for", x.lot(0, 1), buyer == NONE ? NONE : asked);
        for (int b = 0; b < 6; b++) {
            due("6 spent by " + b, x.person(1 + b, 4), b == buyer ? asked : 0);
            due("8 bound " + b, x.bound(1 + b, 0, 0), buyer == NONE ? prices[b] : NONE);
        }
    }

    private static void likeBuyers() {
        soldTo(0, 30, 30, 30, 30, 30, 30, 30);
        soldTo(4, 30, 29, 29, 29, 29, 30, 30);
        soldTo(2, 10, 30, 30, 40, 30, 40, 30);
        soldTo(0, 10, 40, 30, 40, 30, 40, 40);
    }

    private static void greatestBuyer() {
        soldTo(5, 10, 30, 31, 32, 33, 34, 35);
        soldTo(5, 35, 30, 31, 32, 33, 34, 35);
        soldTo(NONE, 36, 30, 31, 32, 33, 34, 35);
        soldTo(0, 1, 2, 1, 1, 1, 1, 1);
    }

    /** No more pressed about, by nobody, of no KIND; other LOTS are. */
    private static void soldLot() {
        ClothPrices x = Check.market("seller 1 2;seller 1 2;buyer 2 999 1,1;buyer 2 999 1,1;broker 2 10;");
        x.hold(0, 2);
        x.hold(0, 3);
        x.hold(2, 4);
        x.hold(1, 3);
        press(x, 50, 2, 0, 0, PLAIN);
        press(x, 50, 0, 2, 0, PLAIN);
        due("5 SOLD", x.told(7), 1);
        for (int kind = PLAIN; kind <= DOUBLE; kind++) {
            due("12 the SELLER", press(x, 5, 0, 2, 0, kind), NOT);
            due("12 the BUYER", press(x, 5, 2, 0, 0, kind), NOT);
            due("12 another BUYER", press(x, 5, 3, 0, 0, kind), NOT);
            due("12 to a BROKER", press(x, 5, 2, 4, 0, kind), NOT);
            x.beat(99);
        }
        due("12 another LOT", press(x, 5, 2, 4, 1, PLAIN), 5);
        due("12 another LOT", press(x, 5, 1, 3, 1, PLAIN), 5);
        due("5 SOLD", x.told(7), 3);
        due("9 to the same BUYER", x.lot(1, 0), 0);
        due("6 spent in all", x.person(2, 4), 55);
    }

    private static void holdIf(ClothPrices x, boolean does, int p, int q) {
        if (does) {
            x.hold(p, q);
        }
    }

    /** Each way in which two BROKERS can HOLD a SELLER and a BUYER when the LOT is SOLD. */
    private static void brokerHoldsBoth() {
        for (int way = 0; way < 16; way++) {
            ClothPrices x = Check.market("seller 1 2;buyer 2 999 1;broker 2 10;broker 2 50;");
            x.hold(0, 1);
            press(x, 100, 0, 1, 0, PLAIN);
            x.loose(0, 1);
            x.hold(1, 2);
            press(x, 99, 1, 2, 0, VOID);
            x.hold(0, 2);
            x.loose(0, 2);
            x.loose(1, 2);
            holdIf(x, (way & 1) > 0, 2, 0);
            holdIf(x, (way & 2) > 0, 2, 1);
            holdIf(x, (way & 4) > 0, 3, 0);
            holdIf(x, (way & 8) > 0, 3, 1);
            // a BUYER presses to whom it HOLDS; where it HOLDS nobody, no BROKER has both of them
            int to = (way & 2) > 0 ? 2 : (way & 8) > 0 ? 3 : 0;
            if (to == 0) {
                x.hold(0, 1);
            }
            boolean isHeld = (x.person(1, 2) >> to & 1) == 1;
            due("12", press(x, 100, 1, to, 0, PLAIN), isHeld ? 100 : NOT);
            boolean first = (way & 3) == 3;
            boolean second = !first && (way & 12) == 12;
            due("6 the least BROKER by way " + way, x.person(2, 4), first ? 10 : 0);
            due("6 the other BROKER by way " + way, x.person(3, 4), second ? 50 : 0);
            due("6 the SELLER has less by way " + way, x.person(0, 4), !isHeld ? 0 : first ? 90 : second ? 50 : 100);
            due("6 the BUYER spent all by way " + way, x.person(1, 4), isHeld ? 100 : 0);
        }
    }

    private static void fees() {
        int[][] rows = {{0, 999, 0}, {1, 99, 0}, {1, 100, 1}, {1, 199, 1}, {1, 200, 2}, {50, 1, 0}, {50, 2, 1},
            {50, 3, 1}, {50, 999, 499}, {33, 3, 0}, {34, 3, 1}, {49, 999, 489}, {10, 9, 0}, {10, 10, 1}};
        for (int[] row : rows) {
            ClothPrices x = Check.market("seller 1 1;buyer 1 999 1;broker 2 " + row[0] + ";");
            x.hold(0, 2);
            x.hold(1, 2);
            press(x, row[1], 1, 2, 0, PLAIN);
            press(x, row[1], 0, 2, 0, PLAIN);
            due("6 " + row[0] + " of a hundred of " + row[1], x.person(2, 4), row[2]);
            due("6 the SELLER has less", x.person(0, 4), row[1] - row[2]);
            due("6 the BUYER spent", x.person(1, 4), row[1]);
            due("9 SOLD for", x.lot(0, 1), row[1]);
        }
        ClothPrices x = Check.market("seller 1 1;seller 1 1;buyer 1 999 1,1;broker 2 50;");
        x.hold(2, 3);
        for (int l = 0; l < 2; l++) {
            x.hold(l, 3);
            press(x, 101, 2, 3, l, PLAIN);
            press(x, 101, l, 3, l, PLAIN);
            x.loose(l, 3);
        }
        due("6 a BROKER's sum, each fee cut for itself", x.person(3, 4), 100);
    }

    private static void beats() {
        ClothPrices x = new ClothPrices();
        due("15 one", x.beat(1), 1);
        due("15 the most", x.beat(99), 100);
        due("15 none", x.beat(0), OUTSIDE);
        due("15 too many", x.beat(100), OUTSIDE);
        due("15 below 0", x.beat(-1), OUTSIDE);
        due("5 BEATS", x.told(4), 100);
        due("15 on", x.beat(1), 101);
    }
}
