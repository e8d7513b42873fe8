/** Part 3 of the document and promises 17 to 21: each boundary that they name, on both sides. */
public final class TradeEdgeTest {
    private static final int NONE = ClothPrices.NONE, UNKNOWN = ClothPrices.UNKNOWN, OUTSIDE = ClothPrices.OUTSIDE;
    private static final int HALFWAY = 0, LEAST = 1, MOST = 2;

    private TradeEdgeTest() {
    }

    public static void main(String[] args) {
        rounds();
        worthAndReserve();
        downToNothing();
        withoutCost();
        fortyRounds();
        bargainsAreAlone();
        nobody();
        worthAtReserve();
        likeGains();
        mostLots();
        firstOfLike();
        greatest();
        bestWhat();
        spans();
        spansOfMore();
        asTold();
        halfway();
        lieBounds();
        liesOfSellers();
        liesOfBuyers();
        lieOfOneWhoLoses();
        lieAboutAnotherLot();
        edgesOfAnotherLot();
        liesOfSix();
        likeLies();
        honest();
        Check.end();
    }

    private static void due(String call, long got, long want) {
        Check.due(call, got, want);
    }

    private static ClothPrices two(int reserve, int worth, int cost) {
        return Check.market("cost " + cost + ";seller " + reserve + " 1;buyer 1 0 " + worth + ";");
    }

    private static void rounds() {
        ClothPrices x = two(40, 60, 3);
        due("17 one round: all of it", x.bargain(0, 0, 1), 60);
        due("17 two rounds", x.bargain(0, 0, 2), 43);
        due("17 three rounds", x.bargain(0, 0, 3), 57);
        due("17 none", x.bargain(0, 0, 0), OUTSIDE);
        due("17 forty-one", x.bargain(0, 0, 41), OUTSIDE);
        for (int n = 1; n <= 40; n++) {
            due("17 rounds " + n, x.bargain(0, 0, n), 40 + sellerHas(20, 3, n));
        }
    }

    /** Round by round from the last: who offers leaves what the other would have next. */
    private static int sellerHas(int share, int cost, int n) {
        int offers = 0;
        for (int k = n - 1; k >= 0; k--) {
            int left = Math.max(0, share - k * cost);
            offers = left - Math.min(left, offers);
        }
        return offers;
    }

    private static void worthAndReserve() {
        for (int n : new int[] {1, 2, 3, 39, 40}) {
            due("17 WORTH below RESERVE", two(50, 49, 2).bargain(0, 0, n), NONE);
            due("17 WORTH far below RESERVE", two(999, 0, 0).bargain(0, 0, n), NONE);
            due("17 nothing to share", two(50, 50, 2).bargain(0, 0, n), 50);
            due("17 nothing to share", two(0, 0, 2).bargain(0, 0, n), 0);
            due("17 nothing to share", two(999, 999, 0).bargain(0, 0, n), 999);
        }
        due("17 one to share, one round", two(50, 51, 2).bargain(0, 0, 1), 51);
        due("17 one to share, two rounds: none is left in the next", two(50, 51, 1).bargain(0, 0, 2), 51);
        due("17 one to share, two rounds", two(50, 51, 0).bargain(0, 0, 2), 50);
    }

    /** What is to share in round 1: 1, 0, and no less. */
    private static void downToNothing() {
        due("17 one is left", two(0, 60, 59).bargain(0, 0, 2), 59);
        due("17 none is left", two(0, 60, 60).bargain(0, 0, 2), 60);
        due("17 no less than none", two(0, 60, 61).bargain(0, 0, 2), 60);
        due("17 no less than none", two(0, 60, 99).bargain(0, 0, 40), 60);
        due("17 one is left in round 2", two(0, 61, 30).bargain(0, 0, 3), 61 - (31 - 1));
        due("17 none is left in round 2", two(0, 60, 30).bargain(0, 0, 3), 60 - 30);
        due("17 no less than none in round 2", two(0, 59, 30).bargain(0, 0, 3), 59 - 29);
        due("17 the greatest", two(0, 999, 99).bargain(0, 0, 1), 999);
        due("17 the greatest", two(0, 999, 99).bargain(0, 0, 2), 99);
    }

    private static void withoutCost() {
        ClothPrices x = two(100, 160, 0);
        for (int n = 1; n <= 40; n++) {
            due("17 who offers last has all: " + n, x.bargain(0, 0, n), n % 2 == 1 ? 160 : 100);
        }
    }

    private static void fortyRounds() {
        due("17 nothing in round 39", two(5, 44, 1).bargain(0, 0, 40), 25);
        due("17 one in round 39", two(5, 45, 1).bargain(0, 0, 40), 25);
        due("17 one in round 38", two(5, 44, 1).bargain(0, 0, 39), 25);
        due("17 nothing is left soon", two(5, 45, 99).bargain(0, 0, 40), 45);
        due("17 untold: 2 a round", Check.market("seller 0 1;buyer 1 0 78;").bargain(0, 0, 40), 40);
    }

    /** Neither PURSES nor sales matter. */
    private static void bargainsAreAlone() {
        ClothPrices x = Twin.after(Twin::busy);
        due("17 a LOT that is SOLD", x.bargain(0, 0, 2), 43);
        due("17 the last SELLER and BUYER", x.bargain(1, 1, 1), 45);
        due("17 BUYERS have their own numbers", x.bargain(1, 2, 1), UNKNOWN);
        due("18 as told", x.best(0), 40);
        due("18 as told, though LOT 0 is SOLD", x.best(1), 2);
    }

    private static void nobody() {
        ClothPrices x = Check.market("");
        due("18 no SELLER", x.best(0), 0);
        due("18 no SELLER", x.best(1), 0);
        due("18 no LOT", x.best(2), OUTSIDE);
        ClothPrices y = Check.market("broker 1 1;");
        due("18 BROKERS alone", y.best(0), 0);
        due("18 BROKERS alone", y.best(2), OUTSIDE);
        due("20 a BROKER", y.lie(0, 0, 0, 0), UNKNOWN);
        ClothPrices z = Check.market("seller 7 1;seller 0 1;seller 999 1;");
        due("18 no BUYER", z.best(0), 0);
        due("18 no BUYER", z.best(1), 0);
        int[] reserves = {7, 0, 999};
        for (int l = 0; l < 3; l++) {
            due("18 nobody buys", z.best(2 + l), NONE);
            due("19 LEAST", z.span(l, 0), reserves[l]);
            due("19 MOST", z.span(l, 1), reserves[l]);
            for (int rule = HALFWAY; rule <= MOST; rule++) {
                due("20 nobody buys", z.lie(rule, l, l, 0), 0);
                due("20 nobody buys", z.lie(rule, l, l, 999), 0);
                due("21 the least", z.bestLie(rule, l, l, 0), 0);
                due("21 HONEST", z.bestLie(rule, l, l, 1), 0);
            }
        }
        due("18 the LOT behind them", z.best(5), OUTSIDE);
    }

    private static void worthAtReserve() {
        int[][] rows = {{50, 49, 0, 0, NONE}, {50, 50, 0, 1, 0}, {50, 51, 1, 1, 0}, {0, 0, 0, 1, 0}, {999, 999, 0, 1, 0},
            {999, 998, 0, 0, NONE}, {0, 999, 999, 1, 0}};
        for (int[] row : rows) {
            ClothPrices x = two(row[0], row[1], 2);
            due("18 GAIN of " + row[1] + " for " + row[0], x.best(0), row[2]);
            due("18 LOTS of " + row[1] + " for " + row[0], x.best(1), row[3]);
            due("18 BUYER of " + row[1] + " for " + row[0], x.best(2), row[4]);
        }
    }

    private static void sold(String text, int gain, int... buyers) {
        ClothPrices x = Check.market(text);
        due("18 GAIN of " + text, x.best(0), gain);
        int lots = 0;
        for (int l = 0; l < buyers.length; l++) {
            due("18 LOT " + l + " of " + text, x.best(2 + l), buyers[l]);
            lots += buyers[l] == NONE ? 0 : 1;
        }
        due("18 LOTS of " + text, x.best(1), lots);
    }

    private static void likeGains() {
        String seller = "seller 10 1;";
        sold(seller + seller + "buyer 1 0 15,15;", 5, 0, NONE);
        sold(seller + seller + "buyer 1 0 15,16;", 6, NONE, 0);
        sold(seller + "buyer 1 0 15;buyer 1 0 15;", 5, 0);
        sold(seller + "buyer 1 0 15;buyer 1 0 16;", 6, 1);
        sold(seller + "buyer 1 0 9;buyer 1 0 10;", 0, 1);
        sold(seller + seller + "buyer 1 0 20,15;buyer 1 0 15,10;", 10, 0, 1);
        sold(seller + seller + "buyer 1 0 20,16;buyer 1 0 15,10;", 11, 1, 0);
        sold(seller + seller + seller + "buyer 1 0 15,15,15;buyer 1 0 15,15,15;", 10, 0, 1, NONE);
    }

    /** Of like GAINS that with most LOTS, though it is not the first. */
    private static void mostLots() {
        String seller = "seller 10 1;";
        sold(seller + seller + "buyer 1 0 20,10;buyer 1 0 20,9;", 10, 1, 0);
        sold(seller + seller + "buyer 1 0 20,9;buyer 1 0 20,9;", 10, 0, NONE);
        sold(seller + seller + "buyer 1 0 20,10;buyer 1 0 20,10;", 10, 0, 1);
        sold(seller + seller + "buyer 1 0 20,20;buyer 1 0 10,9;", 10, 1, 0);
        sold(seller.repeat(3) + "buyer 1 0 10,10,10;", 0, 0, NONE, NONE);
        sold(seller.repeat(2) + "buyer 1 0 12,11;buyer 1 0 11,9;", 2, 1, 0);
        sold(seller.repeat(2) + "buyer 1 0 13,11;buyer 1 0 11,9;", 3, 0, NONE);
        sold(seller.repeat(2) + "buyer 1 0 12,11;buyer 1 0 11,10;", 2, 0, 1);
    }

    private static void firstOfLike() {
        sold("seller 0 1;".repeat(6) + "buyer 1 0 0,0,0,0,0,0;".repeat(6), 0, 0, 1, 2, 3, 4, 5);
        sold("seller 0 1;".repeat(6) + "buyer 1 0 9,9,9,9,9,9;".repeat(3), 27, 0, 1, 2, NONE, NONE, NONE);
        sold("seller 0 1;".repeat(3) + "buyer 1 0 9,9,9;".repeat(6), 27, 0, 1, 2);
        sold("seller 1 1;" + "seller 0 1;".repeat(5) + "buyer 1 0 0,9,9,9,9,9;".repeat(5), 45, NONE, 0, 1, 2, 3, 4);
        sold("seller 1 1;".repeat(2) + "buyer 1 0 0,5;" + "buyer 1 0 5,5;".repeat(2), 8, 1, 0);
    }

    private static void greatest() {
        sold("seller 0 1;".repeat(6) + "buyer 1 0 999,999,999,999,999,999;".repeat(6), 5994, 0, 1, 2, 3, 4, 5);
        sold("seller 999 1;".repeat(6) + "buyer 1 0 998,998,998,998,998,998;".repeat(6), 0, NONE, NONE, NONE, NONE, NONE, NONE);
        sold("seller 0 1;".repeat(6) + "buyer 1 0 0,0,0,0,0,999;buyer 1 0 0,0,0,0,999,0;buyer 1 0 0,0,0,999,0,0;"
            + "buyer 1 0 0,0,999,0,0,0;buyer 1 0 0,999,0,0,0,0;buyer 1 0 999,0,0,0,0,0;", 5994, 5, 4, 3, 2, 1, 0);
    }

    private static void bestWhat() {
        for (int lots = 1; lots <= 6; lots++) {
            ClothPrices x = Check.market("seller 5 1;".repeat(lots));
            due("18 the last LOT", x.best(1 + lots), NONE);
            due("18 no LOT", x.best(2 + lots), OUTSIDE);
            due("18 below 0", x.best(-1), OUTSIDE);
        }
    }

    private static void span(String text, int lot, int least, int most) {
        ClothPrices x = Check.market(text);
        due("19 LEAST of " + lot + " in " + text, x.span(lot, 0), least);
        due("19 MOST of " + lot + " in " + text, x.span(lot, 1), most);
    }

    private static void spans() {
        span("seller 10 1;buyer 1 0 50;", 0, 10, 50);
        span("seller 10 1;buyer 1 0 10;", 0, 10, 10);
        span("seller 10 1;buyer 1 0 9;", 0, 10, 10);
        span("seller 0 1;buyer 1 0 999;", 0, 0, 999);
        span("seller 0 1;buyer 1 0 999;buyer 1 0 999;", 0, 999, 999);
        span("seller 10 1;buyer 1 0 50;buyer 1 0 10;", 0, 10, 50);
        span("seller 10 1;buyer 1 0 50;buyer 1 0 11;", 0, 11, 50);
        span("seller 10 1;buyer 1 0 50;buyer 1 0 50;", 0, 50, 50);
        span("seller 10 1;buyer 1 0 50;buyer 1 0 40;buyer 1 0 45;", 0, 45, 50);
        span("seller 999 1;buyer 1 0 998;buyer 1 0 998;", 0, 999, 999);
        span("seller 999 1;buyer 1 0 999;buyer 1 0 0;", 0, 999, 999);
    }

    private static void spansOfMore() {
        String shared = "seller 40 1;seller 25 1;buyer 1 0 60,30;buyer 1 0 50,45;";
        span(shared, 0, 40, 60);
        span(shared, 1, 25, 45);
        // without LOT 0 the BUYER of it takes LOT 1; with two of them, the other BUYER comes over
        span("seller 0 1;seller 0 1;buyer 1 0 9,8;buyer 1 0 0,5;", 0, 0, 9 + 5 - 8);
        span("seller 0 1;seller 0 1;buyer 1 0 9,8;buyer 1 0 7,5;", 0, 9 + 7 - 15, 15 - 8);
        span("seller 0 1;seller 0 1;buyer 1 0 9,8;buyer 1 0 7,5;", 1, 0, 15 - 9);
        String six = "seller 0 1;".repeat(6) + "buyer 1 0 999,999,999,999,999,999;".repeat(6);
        for (int l = 0; l < 6; l++) {
            span(six, l, 0, 999);
            span("seller 0 1;".repeat(6) + "buyer 1 0 999,999,999,999,999,999;".repeat(5), l, 0, 0);
            span("seller 0 1;".repeat(5) + "seller 999 1;" + "buyer 1 0 999,999,999,999,999,999;".repeat(6), l, 999, 999);
        }
    }

    /** Neither PURSES nor hands, bindings nor sales are looked at. */
    private static void asTold() {
        ClothPrices x = Twin.after(Twin::busy);
        due("19 a LOT that is SOLD", x.span(0, 0), 40);
        due("19 a LOT that is SOLD", x.span(0, 1), 60);
        due("21 a LOT that is SOLD", x.bestLie(HALFWAY, 0, 0, 0), 60);
        due("20 beyond the PURSE of 90", x.lie(MOST, 2, 0, 999), 60 - 999);
    }

    /** Their sum / 2, cut. */
    private static void halfway() {
        due("20 40 and 61: 50", two(40, 60, 0).lie(HALFWAY, 1, 0, 61), 0);
        due("20 40 and 62: 51", two(40, 60, 0).lie(HALFWAY, 1, 0, 62), -1);
        due("20 41 and 60: 50", two(40, 60, 0).lie(HALFWAY, 0, 0, 41), 0);
        due("20 42 and 60: 51", two(40, 60, 0).lie(HALFWAY, 0, 0, 42), 1);
        due("20 39 and 60: 49", two(40, 60, 0).lie(HALFWAY, 0, 0, 39), -1);
    }

    private static void lieBounds() {
        ClothPrices x = two(40, 60, 0);
        for (int rule = HALFWAY; rule <= MOST; rule++) {
            due("20 the truth", x.lie(rule, 0, 0, 40), 0);
            due("20 the truth", x.lie(rule, 1, 0, 60), 0);
            due("20 v -1", x.lie(rule, 0, 0, -1), OUTSIDE);
            due("20 v 1000", x.lie(rule, 1, 0, 1000), OUTSIDE);
        }
        due("20 RULE -1", x.lie(-1, 0, 0, 0), OUTSIDE);
        due("20 RULE 3", x.lie(3, 0, 0, 0), OUTSIDE);
        due("21 RULE -1", x.bestLie(-1, 0, 0, 0), OUTSIDE);
        due("21 RULE 3", x.bestLie(3, 0, 0, 0), OUTSIDE);
        due("21 what -1", x.bestLie(0, 0, 0, -1), OUTSIDE);
        due("21 what 2", x.bestLie(0, 0, 0, 2), OUTSIDE);
    }

    private static void lies(ClothPrices x, int rule, int p, int v, int worth) {
        due("20 RULE " + rule + ", " + p + " tells " + v, x.lie(rule, p, 0, v), worth);
    }

    /** RESERVE 40, WORTH 60; by the truth it has 10, 0, 20. */
    private static void liesOfSellers() {
        ClothPrices x = two(40, 60, 0);
        lies(x, HALFWAY, 0, 0, -20);
        lies(x, HALFWAY, 0, 59, 9);
        lies(x, HALFWAY, 0, 60, 10);
        lies(x, HALFWAY, 0, 61, -10);
        lies(x, HALFWAY, 0, 999, -10);
        lies(x, LEAST, 0, 0, -40);
        lies(x, LEAST, 0, 60, 20);
        lies(x, LEAST, 0, 61, 0);
        lies(x, LEAST, 0, 999, 0);
        lies(x, MOST, 0, 0, 0);
        lies(x, MOST, 0, 60, 0);
        lies(x, MOST, 0, 61, -20);
        lies(x, MOST, 0, 999, -20);
    }

    /** RESERVE 40, WORTH 60; by the truth it has 10, 20, 0. */
    private static void liesOfBuyers() {
        ClothPrices x = two(40, 60, 0);
        lies(x, HALFWAY, 1, 39, -10);
        lies(x, HALFWAY, 1, 40, 10);
        lies(x, HALFWAY, 1, 0, -10);
        lies(x, HALFWAY, 1, 999, 60 - 519 - 10);
        lies(x, LEAST, 1, 39, -20);
        lies(x, LEAST, 1, 40, 0);
        lies(x, LEAST, 1, 999, 0);
        lies(x, MOST, 1, 39, 0);
        lies(x, MOST, 1, 40, 20);
        lies(x, MOST, 1, 0, 0);
        lies(x, MOST, 1, 999, -939);
    }

    /** By the truth nothing is sold; a lie may sell at a loss. */
    private static void lieOfOneWhoLoses() {
        ClothPrices x = two(40, 30, 0);
        lies(x, HALFWAY, 0, 30, -10);
        lies(x, HALFWAY, 0, 31, 0);
        lies(x, HALFWAY, 0, 0, -25);
        lies(x, HALFWAY, 1, 40, -10);
        lies(x, HALFWAY, 1, 39, 0);
        lies(x, HALFWAY, 1, 999, 30 - 519);
        lies(x, LEAST, 0, 0, -40);
        lies(x, MOST, 1, 999, 30 - 999);
        due("21 a lie that sells nothing", x.bestLie(HALFWAY, 0, 0, 1), 0);
        due("21 the least that sells nothing", x.bestLie(HALFWAY, 0, 0, 0), 31);
        due("21 the least that buys nothing", x.bestLie(HALFWAY, 1, 0, 0), 0);
    }

    /** A BUYER that lies about one LOT may buy another, by its true WORTH of that. */
    private static void lieAboutAnotherLot() {
        ClothPrices x = Check.market("seller 10 1;seller 10 1;buyer 1 0 30,20;buyer 1 0 0,0;");
        due("18 LOT 0", x.best(2), 0);
        due("20 it tells nothing of LOT 0: LOT 1", x.lie(HALFWAY, 2, 0, 0), (20 - 15) - (30 - 20));
        due("20 it tells 20: the first still", x.lie(HALFWAY, 2, 0, 20), (30 - 15) - 10);
        due("20 it tells 19: LOT 1", x.lie(HALFWAY, 2, 0, 19), 5 - 10);
        due("20 it tells 999 of LOT 1", x.lie(HALFWAY, 2, 1, 999), (20 - 504) - 10);
        due("20 another that buys nothing", x.lie(HALFWAY, 3, 1, 9), 0);
        due("20 another that tells as much", x.lie(HALFWAY, 3, 1, 10), -10);
    }

    /**
     * GAIN 32: BUYER 2 has LOT 0, BUYER 4 LOT 1, which has LEAST 15, MOST 22; of LOT 0 these are 20, 27.
     * If BUYER 2 tells nothing of LOT 0, GAIN is 25 and it has LOT 1, for 22 or 25.
     * If BUYER 4 tells 999 of LOT 0, GAIN is 1004 and it has that LOT, for 20 or 999.
     */
    private static void edgesOfAnotherLot() {
        ClothPrices x = Check.market("seller 10 1;seller 10 1;buyer 1 0 30,25;buyer 1 0 20,5;buyer 1 0 5,22;");
        for (int round = 0; round < 2; round++) {
            due("20 LEAST of LOT 1", x.lie(LEAST, 2, 0, 0), (25 - 22) - (30 - 20));
            due("20 MOST of LOT 1", x.lie(MOST, 2, 0, 0), (25 - 25) - (30 - 27));
            due("20 HALFWAY of LOT 1", x.lie(HALFWAY, 2, 0, 0), (25 - 17) - (30 - 20));
            due("20 LEAST of LOT 0", x.lie(LEAST, 4, 0, 999), (5 - 20) - (22 - 15));
            due("20 MOST of LOT 0", x.lie(MOST, 4, 0, 999), (5 - 999) - (22 - 22));
            due("20 one that buys nothing", x.lie(MOST, 3, 1, 9), 0);
        }
        Check.feed(x, "seller 20 1;seller 10 1;buyer 1 0 30,25;");
        x.market();
        due("20 of another market", x.lie(MOST, 2, 0, 0), (25 - 25) - (25 - 15));
        due("20 of another market", x.lie(LEAST, 2, 1, 9), (30 - 20) - (25 - 10));
        due("20 of another market", x.lie(LEAST, 2, 0, 99), (30 - 20) - (25 - 10));
    }

    /** As many LOTS and BUYERS as can be, all alike: prices are 15, 10, 20. */
    private static void liesOfSix() {
        ClothPrices x = Check.market("seller 10 1;".repeat(6) + "buyer 1 0 20,20,20,20,20,20;".repeat(6));
        for (int l = 0; l < 6; l++) {
            due("20 HALFWAY, SELLER " + l, x.lie(HALFWAY, l, l, 20), 5);
            due("20 HALFWAY, SELLER " + l, x.lie(HALFWAY, l, l, 21), -5);
            due("20 LEAST, SELLER " + l, x.lie(LEAST, l, l, 20), 10);
            due("20 MOST, SELLER " + l, x.lie(MOST, l, l, 21), -10);
            due("20 HALFWAY, BUYER " + l + ": another LOT", x.lie(HALFWAY, 6 + l, 5 - l, 0), 0);
            due("20 MOST, BUYER " + l, x.lie(MOST, 6 + l, l, 20), 0);
            due("21 SELLER " + l, x.bestLie(HALFWAY, l, l, 0), 20);
            due("21 SELLER " + l, x.bestLie(LEAST, l, l, 1), 10);
        }
        ClothPrices y = Check.market("seller 10 1;".repeat(6) + "buyer 1 0 20,20,20,20,20,20;".repeat(5) + "buyer 1 0 0,0,0,0,0,0;");
        for (int rule = HALFWAY; rule <= MOST; rule++) {
            for (int l = 0; l < 6; l++) {
                due("20 it buys nothing still", y.lie(rule, 11, l, 9), 0);
                due("20 it buys for 10", y.lie(rule, 11, l, 10), -10);
            }
        }
    }

    private static void bestLie(ClothPrices x, int rule, int p, int v, int worth) {
        due("21 v by RULE " + rule + " of " + p, x.bestLie(rule, p, 0, 0), v);
        due("21 worth by RULE " + rule + " of " + p, x.bestLie(rule, p, 0, 1), worth);
        due("20 it is worth this by RULE " + rule + " of " + p, x.lie(rule, p, 0, v), worth);
    }

    /** Of like ones the least; the ends of what can be told. */
    private static void likeLies() {
        ClothPrices x = two(40, 60, 0);
        bestLie(x, HALFWAY, 0, 60, 10);
        bestLie(x, HALFWAY, 1, 40, 10);
        bestLie(x, LEAST, 0, 60, 20);
        bestLie(x, LEAST, 1, 40, 0);
        bestLie(x, MOST, 0, 0, 0);
        bestLie(x, MOST, 1, 40, 20);
        ClothPrices y = two(0, 999, 0);
        bestLie(y, HALFWAY, 0, 999, 500);
        bestLie(y, HALFWAY, 1, 0, 499);
        bestLie(y, LEAST, 0, 999, 999);
        bestLie(y, LEAST, 1, 0, 0);
        bestLie(y, MOST, 0, 0, 0);
        bestLie(y, MOST, 1, 0, 999);
        ClothPrices z = two(1, 60, 0);
        bestLie(z, HALFWAY, 1, 1, 29);
        bestLie(z, MOST, 1, 1, 59);
        bestLie(z, LEAST, 1, 1, 0);
    }

    /** By LEAST prices no BUYER, by MOST prices no SELLER gains by a lie. */
    private static void honest() {
        ClothPrices x = Check.market("seller 10 1;seller 30 1;seller 20 1;buyer 1 0 50,20,33;buyer 1 0 40,45,31;"
            + "buyer 1 0 35,35,35;buyer 1 0 12,30,60;");
        for (int l = 0; l < 3; l++) {
            due("21 SELLER " + l, x.bestLie(MOST, l, l, 1), 0);
            for (int b = 0; b < 4; b++) {
                due("21 BUYER " + b + " about " + l, x.bestLie(LEAST, 3 + b, l, 1), 0);
            }
        }
    }
}
