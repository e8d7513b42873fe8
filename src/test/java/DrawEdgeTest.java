import java.math.BigInteger;

/** BY DRAWS, promises 16 and 30: each boundary that they name, on both sides. */
public final class DrawEdgeTest {
    private static final int NONE = ClothPrices.NONE, OUTSIDE = ClothPrices.OUTSIDE;
    private static final int ANY = -1;

    private DrawEdgeTest() {
    }

    public static void main(String[] args) {
        seeds();
        firstDraws();
        howManyBeats();
        howManyDraws();
        sellerPrices();
        buyerPrices();
        purses();
        lots();
        oneByOne();
        boundAlready();
        sales();
        soldInTheSameBeat();
        soldLots();
        handsDoNotMatter();
        fees();
        Check.end();
    }

    private static void due(String call, long got, long want) {
        Check.due(call, got, want);
    }

    /** THE SEED after a DRAW, in numbers that have no end. */
    private static int next(int seed) {
        return BigInteger.valueOf(seed).multiply(BigInteger.valueOf(1103515245)).add(BigInteger.valueOf(12345))
            .mod(BigInteger.TWO.pow(31)).intValueExact();
    }

    private static int after(int seed, int draws) {
        for (int k = 0; k < draws; k++) {
            seed = next(seed);
        }
        return seed;
    }

    /** The least SEED whose DRAWS, of so many each, are these (ANY: whatever it is). */
    private static int seedFor(int[] of, int[] draws) {
        for (int seed = 0; seed < 10_000_000; seed++) {
            int s = seed;
            int k = 0;
            do {
                s = next(s);
            } while ((draws[k] == ANY || s / 65536 % of[k] == draws[k]) && ++k < of.length);
            if (k == of.length) {
                return seed;
            }
        }
        due("a seed is found", 0, 1);
        return 0;
    }

    private static void seeds() {
        ClothPrices x = new ClothPrices();
        due("30 at first", x.seed(0), 0);
        due("30", x.seed(2147483647), 0);
        due("30 the greatest", x.seed(1), 2147483647);
        due("30 below 0", x.seed(-1), OUTSIDE);
        due("30 the least int", x.seed(Integer.MIN_VALUE), OUTSIDE);
        due("30 as it was", x.seed(0), 1);
        due("30 the least", x.seed(7), 0);
    }

    private static void firstDraws() {
        ClothPrices x = Check.market("seller 100 1;");
        due("16 of SEED 0", x.drift(1), 0);
        due("30 12345", x.seed(0), 12345);
        due("8 the DRAW is 0", x.bound(0, 0, 0), 100);
        ClothPrices y = Check.market("seller 100 1;");
        y.seed(2147483647);
        y.drift(1);
        // 2^31 less 1103515245, and 12345; / 65536 is 15929, left over by 50: 29
        due("30 of the greatest", y.seed(0), 1043980748);
        due("8 the DRAW is 29", y.bound(0, 0, 0), 129);
        for (int seed : new int[] {1, 65535, 65536, 1073741823, 1073741824, 2147483646}) {
            ClothPrices z = Check.market("seller 100 1;");
            z.seed(seed);
            z.drift(1);
            due("30 of " + seed, z.seed(0), next(seed));
            due("8 by " + seed, z.bound(0, 0, 0), 100 + next(seed) / 65536 % 50);
        }
    }

    private static void howManyBeats() {
        ClothPrices x = Check.market("seller 100 1;");
        due("16 0", x.drift(0), OUTSIDE);
        due("16 61", x.drift(61), OUTSIDE);
        due("16 -1", x.drift(-1), OUTSIDE);
        due("5 BEATS", x.told(4), 0);
        due("30 no DRAW", x.seed(0), 0);
        due("16 1", x.drift(1), 0);
        due("5 BEATS", x.told(4), 1);
        due("16 60", x.drift(60), 0);
        due("5 BEATS", x.told(4), 61);
        due("30 a DRAW for each", x.seed(0), after(0, 61));
        ClothPrices one = Check.market(Twin.FAIR);
        ClothPrices all = Check.market(Twin.FAIR);
        int sold = 0;
        for (int k = 0; k < 60; k++) {
            sold = one.drift(1);
        }
        due("16 sixty at once", all.drift(60), sold);
        Twin.same("16 sixty at once or one by one", one, all);
    }

    /** DRAWS are made whatever comes of them: one for a SELLER, two for a BUYER. */
    private static void howManyDraws() {
        String[] texts = {"", "seller 0 1;", "seller 0 1;buyer 1 0 0;", "seller 999 1;seller 5 2;buyer 2 999 60,7;broker 1 5;",
            "seller 10 1;".repeat(6) + "buyer 1 50 10,20,30,40,50,60;".repeat(6) + "broker 2 9;".repeat(2)};
        int[] draws = {0, 1, 3, 4, 18};
        for (int k = 0; k < texts.length; k++) {
            ClothPrices x = Check.market(texts[k]);
            x.seed(5);
            x.drift(1);
            due("30 DRAWS of a BEAT", x.seed(5), after(5, draws[k]));
            x.drift(60);
            due("30 DRAWS of sixty", x.seed(5), after(5, 60 * draws[k]));
        }
    }

    /** RESERVE and a DRAW, if it is 1 to 999. */
    private static void sellerPrices() {
        int[][] rows = {{950, 49, 999}, {951, 49, NONE}, {951, 48, 999}, {999, 0, 999}, {999, 1, NONE}, {0, 0, NONE},
            {0, 1, 1}, {1, 0, 1}, {0, 49, 49}, {998, 1, 999}, {998, 2, NONE}};
        for (int[] row : rows) {
            ClothPrices x = Check.market("binds 7;seller " + row[0] + " 1;");
            x.beat(3);
            x.seed(seedFor(new int[] {50}, new int[] {row[1]}));
            due("16", x.drift(1), 0);
            due("8 " + row[0] + " and " + row[1], x.bound(0, 0, 0), row[2]);
            due("8 till", x.bound(0, 0, 1), row[2] == NONE ? NONE : 10);
        }
    }

    /** WORTH less a DRAW, if it is 1 to 999. */
    private static void buyerPrices() {
        int[][] rows = {{1, 0, 1}, {1, 1, NONE}, {0, 0, NONE}, {0, 49, NONE}, {49, 49, NONE}, {50, 49, 1}, {49, 48, 1},
            {999, 0, 999}, {999, 49, 950}};
        for (int[] row : rows) {
            ClothPrices x = Check.market("binds 7;seller 999 1;buyer 1 9999 " + row[0] + ";");
            x.seed(seedFor(new int[] {50, 1, 50}, new int[] {49, ANY, row[1]}));
            due("16", x.drift(1), 0);
            due("8 the SELLER's is beyond", x.bound(0, 0, 0), NONE);
            due("8 " + row[0] + " less " + row[1], x.bound(1, 0, 0), row[2]);
            due("8 till", x.bound(1, 0, 1), row[2] == NONE ? NONE : 7);
        }
    }

    private static void purses() {
        int[][] rows = {{60, 60, 0, 60}, {59, 60, 0, NONE}, {59, 60, 1, 59}, {0, 5, 4, NONE}, {1, 5, 4, 1}};
        for (int[] row : rows) {
            ClothPrices x = Check.market("seller 999 1;buyer 1 " + row[0] + " " + row[1] + ";");
            x.seed(seedFor(new int[] {50, 1, 50}, new int[] {49, ANY, row[2]}));
            x.drift(1);
            due("8 within " + row[0], x.bound(1, 0, 0), row[3]);
        }
    }

    /** A BUYER's LOT is a DRAW of how many there are. */
    private static void lots() {
        for (int l = 0; l < 6; l++) {
            ClothPrices x = Check.market("seller 999 1;".repeat(6) + "buyer 1 99 10,20,30,40,50,60;");
            x.seed(seedFor(new int[] {50, 50, 50, 50, 50, 50, 6, 50}, new int[] {ANY, ANY, ANY, ANY, ANY, ANY, l, 3}));
            x.drift(1);
            for (int m = 0; m < 6; m++) {
                due("8 about LOT " + m, x.bound(6, m, 0), m == l ? 10 * l + 7 : NONE);
            }
        }
    }

    /** Each SELLER, then each BUYER, each with its own DRAWS. */
    private static void oneByOne() {
        for (int seed = 1; seed <= 40; seed++) {
            ClothPrices x = Check.market("seller 500 1;seller 600 1;seller 700 1;buyer 1 999 100,200,300;"
                + "buyer 1 999 150,250,350;buyer 1 999 199,299,399;");
            x.seed(seed);
            x.drift(1);
            int s = seed;
            for (int l = 0; l < 3; l++) {
                s = next(s);
                due("8 SELLER " + l, x.bound(l, l, 0), 500 + 100 * l + s / 65536 % 50);
            }
            for (int b = 0; b < 3; b++) {
                int lot = next(s) / 65536 % 3;
                s = after(s, 2);
                for (int l = 0; l < 3; l++) {
                    int price = x.worth(b, l) - s / 65536 % 50;
                    due("8 BUYER " + b + " about " + l, x.bound(3 + b, l, 0), l == lot ? price : NONE);
                }
            }
        }
    }

    private static void boundAlready() {
        ClothPrices x = Check.market("binds 5;seller 10 1;");
        x.seed(3);
        int first = 10 + next(3) / 65536 % 50;
        int sixth = 10 + after(3, 6) / 65536 % 50;
        for (int k = 1; k <= 4; k++) {
            x.drift(1);
            due("8 bound once", x.bound(0, 0, 0), first);
            due("8 bound once till", x.bound(0, 0, 1), 5);
        }
        x.drift(1);
        due("8 over", x.bound(0, 0, 0), NONE);
        x.drift(1);
        due("8 bound anew", x.bound(0, 0, 0), sixth);
        due("8 bound anew till", x.bound(0, 0, 1), 10);
        ClothPrices y = Check.market("binds 1;seller 10 1;");
        y.drift(3);
        due("8 for one BEAT: over at its end", y.bound(0, 0, 0), NONE);
    }

    private static void sales() {
        for (int less = 0; less < 2; less++) {
            ClothPrices x = Check.market("seller 10 1;buyer 1 10 10;");
            x.seed(seedFor(new int[] {50, 1, 50}, new int[] {0, ANY, less}));
            due("16 SOLD at a like price", x.drift(1), 1 - less);
            due("9 to", x.lot(0, 0), less == 0 ? 0 : NONE);
            due("9 for", x.lot(0, 1), less == 0 ? 10 : NONE);
            due("6 spent", x.person(1, 4), less == 0 ? 10 : 0);
            due("6 gained", x.person(0, 4), less == 0 ? 10 : 0);
            due("8 over, if SOLD", x.bound(1, 0, 0), less == 0 ? NONE : 9);
        }
    }

    /** What a SELLER's DRAW sells is spent when the BUYER's turn comes. */
    private static void soldInTheSameBeat() {
        for (int purse : new int[] {40, 41}) {
            ClothPrices x = Check.market("seller 10 1;seller 999 1;buyer 1 " + purse + " 5,31;");
            x.hold(0, 2);
            Check.press(x, "xxx", 2, 0, 0, 0, NONE);
            x.seed(seedFor(new int[] {50, 50, 2, 50}, new int[] {0, 1, 1, 0}));
            due("16 LOT 0", x.drift(1), 1);
            due("9 for what is asked", x.lot(0, 1), 10);
            due("8 31 of " + purse + " less 10", x.bound(2, 1, 0), purse == 40 ? NONE : 31);
        }
    }

    private static void soldLots() {
        ClothPrices x = Check.market("binds 1;seller 10 1;seller 1 1;buyer 2 999 99,99;buyer 1 999 0,0;");
        x.hold(0, 2);
        Check.press(x, "xxx", 2, 0, 0, 0, NONE);
        Check.press(x, "xx", 0, 2, 0, 0, NONE);
        for (int k = 0; k < 40; k++) {
            due("16 as many as are SOLD", x.drift(1), Integer.bitCount(x.told(7)));
            due("9 LOT 0 stays SOLD", x.lot(0, 1), 20);
            due("8 nobody is bound about it", x.bound(0, 0, 0), NONE);
            due("8 nobody is bound about it", x.bound(2, 0, 0), NONE);
        }
        due("16 all are SOLD in the end", x.drift(1), 2);
    }

    private static void handsDoNotMatter() {
        ClothPrices x = Check.market("seller 10 1;buyer 1 999 900;broker 1 50;broker 1 50;");
        x.hold(0, 2);
        x.hold(1, 3);
        due("16 SOLD", x.drift(1), 1);
        due("6 no BROKER HOLDS both", x.person(2, 4) + x.person(3, 4), 0);
        due("6 hands as they were", x.person(0, 2), 4);
        due("6 hands as they were", x.person(1, 2), 8);
    }

    private static void fees() {
        ClothPrices x = Check.market("seller 11 1;buyer 1 999 900;broker 2 50;");
        x.hold(0, 2);
        x.hold(1, 2);
        x.seed(seedFor(new int[] {50}, new int[] {0}));
        due("16 SOLD", x.drift(1), 1);
        due("6 the BROKER that HOLDS both", x.person(2, 4), 5);
        due("6 the SELLER has less", x.person(0, 4), 6);
        due("6 the BUYER spent", x.person(1, 4), 11);
    }
}
