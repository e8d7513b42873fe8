/** THE BOOK and IMAGES, promises 27 to 29, 31 and 32: each boundary that they name, on both sides. */
public final class BookEdgeTest {
    private static final int NONE = ClothPrices.NONE, UNKNOWN = ClothPrices.UNKNOWN, OUTSIDE = ClothPrices.OUTSIDE;
    private static final int NOT = ClothPrices.NOT, FULL = ClothPrices.FULL;

    private BookEdgeTest() {
    }

    public static void main(String[] args) {
        bounds();
        fullBook();
        emptyBook();
        beatsInOrder();
        boundInTheBook();
        boundByTheLatest();
        others();
        purse();
        purseBesides();
        sellersHaveNoPurse();
        firstWrong();
        lastWrong();
        bookAlone();
        bookOfAnotherMarket();
        imageNumbers();
        notKept();
        allIsKept();
        notKeptBesides();
        imagesAreTwo();
        imageStays();
        imagesOfNothing();
        Check.end();
    }

    private static void due(String call, long got, long want) {
        Check.due(call, got, want);
    }

    /** SELLERS 0, 1, 2; BUYERS 3 (PURSE 100), 4 (PURSE 0). */
    private static ClothPrices fair(int binds) {
        return Check.market("binds " + binds + ";seller 5 1;seller 5 1;seller 5 1;buyer 1 100 5,5,5;buyer 2 0 5,5,5;broker 1 1;");
    }

    private static void bounds() {
        ClothPrices x = fair(5);
        due("27 the least", x.write(0, 0, 0, 1), 1);
        due("27 the most", x.write(9999, 2, 2, 999), 2);
        due("27 a BUYER, the last LOT", x.write(9999, 4, 2, 1), 3);
        due("27 BEAT -1", x.write(-1, 0, 0, 1), OUTSIDE);
        due("27 BEAT 10000", x.write(10000, 0, 0, 1), OUTSIDE);
        due("27 price 0", x.write(0, 0, 0, 0), OUTSIDE);
        due("27 price 1000", x.write(0, 0, 0, 1000), OUTSIDE);
        due("27 a BROKER", x.write(0, 5, 0, 1), UNKNOWN);
        due("27 nobody", x.write(0, 6, 0, 1), UNKNOWN);
        due("27 another SELLER's LOT", x.write(0, 1, 0, 1), UNKNOWN);
        due("27 no LOT", x.write(0, 3, 3, 1), UNKNOWN);
        due("5 of THE BOOK", x.told(8), 3);
    }

    private static void fullBook() {
        ClothPrices x = fair(1);
        for (int round = 0; round < 2; round++) {
            for (int k = 1; k <= 30; k++) {
                due("27", x.write(k, 3, 0, 100), k);
                due("5 of THE BOOK", x.told(8), k);
            }
            due("29 all are right", x.judge(), NONE);
            due("27 a thirty-first", x.write(31, 3, 0, 1), FULL);
            due("27 a thirty-first that were WRONG", x.write(0, 3, 0, 999), FULL);
            due("29 all are right", x.judge(), NONE);
            due("28 how many it had", x.tear(), 30);
            due("5 it is empty", x.told(8), 0);
            due("28 none", x.tear(), 0);
        }
    }

    private static void emptyBook() {
        due("29 a new one", new ClothPrices().judge(), NONE);
        ClothPrices x = fair(5);
        due("29 nothing written", x.judge(), NONE);
        x.write(0, 4, 0, 1);
        due("29 the first", x.judge(), 0);
        x.tear();
        due("29 torn", x.judge(), NONE);
    }

    /** Rows of BEAT, PERSON, LOT, price. */
    private static void judged(int binds, int wrong, int[]... rows) {
        ClothPrices x = fair(binds);
        StringBuilder text = new StringBuilder("29 N " + binds + ":");
        for (int[] row : rows) {
            x.write(row[0], row[1], row[2], row[3]);
            text.append(' ').append(java.util.Arrays.toString(row));
        }
        due(text.toString(), x.judge(), wrong);
        due("29 it stays: " + text, x.judge(), wrong);
        due("5 it stays: " + text, x.told(8), rows.length);
    }

    private static int[] row(int beat, int p, int lot, int price) {
        return new int[] {beat, p, lot, price};
    }

    private static void beatsInOrder() {
        judged(5, NONE, row(7, 0, 0, 9), row(7, 1, 1, 9));
        judged(5, NONE, row(7, 0, 0, 9), row(8, 1, 1, 9));
        judged(5, 1, row(7, 0, 0, 9), row(6, 1, 1, 9));
        judged(5, NONE, row(0, 0, 0, 9), row(9999, 1, 1, 9));
        judged(5, 1, row(9999, 0, 0, 9), row(9998, 1, 1, 9));
        judged(5, 1, row(1, 0, 0, 9), row(0, 1, 1, 9));
        judged(5, 2, row(3, 0, 0, 9), row(5, 1, 1, 9), row(4, 2, 2, 9));
        judged(5, 1, row(20, 0, 0, 9), row(3, 0, 0, 9));
    }

    private static void boundInTheBook() {
        for (int n : new int[] {1, 2, 12, 99}) {
            for (int from : new int[] {0, 50, 9900}) {
                for (int p : new int[] {0, 3}) {
                    judged(n, 1, row(from, p, 0, 9), row(from, p, 0, 9));
                    judged(n, 1, row(from, p, 0, 9), row(from + n - 1, p, 0, 9));
                    judged(n, NONE, row(from, p, 0, 9), row(from + n, p, 0, 9));
                }
            }
        }
    }

    private static void boundByTheLatest() {
        judged(5, 2, row(0, 0, 0, 9), row(5, 0, 0, 9), row(9, 0, 0, 9));
        judged(5, NONE, row(0, 0, 0, 9), row(5, 0, 0, 9), row(10, 0, 0, 9));
        judged(5, 3, row(0, 0, 0, 9), row(1, 1, 1, 9), row(2, 2, 2, 9), row(4, 0, 0, 9));
        judged(5, NONE, row(0, 0, 0, 9), row(1, 1, 1, 9), row(2, 2, 2, 9), row(5, 0, 0, 9));
    }

    /** Another PERSON about the LOT, the same one about another LOT. */
    private static void others() {
        judged(5, NONE, row(0, 0, 0, 9), row(0, 3, 0, 9), row(0, 3, 1, 9), row(0, 3, 2, 9));
        judged(5, 4, row(0, 0, 0, 9), row(0, 3, 0, 9), row(0, 3, 1, 9), row(0, 3, 2, 9), row(0, 3, 1, 9));
        // a SELLER's price is not above a BUYER's: nothing is SOLD in THE BOOK, all stay bound
        judged(5, 2, row(0, 0, 0, 9), row(0, 3, 0, 9), row(1, 3, 0, 9));
        judged(5, 2, row(0, 0, 0, 9), row(0, 3, 0, 9), row(1, 0, 0, 9));
    }

    private static void purse() {
        judged(5, NONE, row(0, 3, 0, 100));
        judged(5, 0, row(0, 3, 0, 101));
        judged(5, 0, row(0, 4, 0, 1));
        judged(5, 1, row(0, 3, 0, 100), row(0, 4, 0, 1));
        judged(5, 0, row(0, 3, 0, 999));
    }

    private static void purseBesides() {
        judged(5, NONE, row(0, 3, 0, 60), row(0, 3, 1, 40));
        judged(5, 1, row(0, 3, 0, 60), row(0, 3, 1, 41));
        judged(5, NONE, row(0, 3, 0, 60), row(4, 3, 1, 40));
        judged(5, 1, row(0, 3, 0, 60), row(4, 3, 1, 41));
        judged(5, NONE, row(0, 3, 0, 60), row(5, 3, 1, 100));
        judged(5, 1, row(0, 3, 0, 60), row(5, 3, 1, 101));
        judged(5, NONE, row(0, 3, 0, 60), row(0, 3, 1, 30), row(0, 3, 2, 10));
        judged(5, 2, row(0, 3, 0, 60), row(0, 3, 1, 30), row(0, 3, 2, 11));
        judged(5, NONE, row(0, 3, 0, 60), row(3, 3, 1, 30), row(5, 3, 2, 70));
        judged(5, 2, row(0, 3, 0, 60), row(3, 3, 1, 30), row(5, 3, 2, 71));
        judged(5, NONE, row(0, 3, 0, 100), row(5, 3, 0, 100));
        judged(5, NONE, row(0, 0, 0, 99), row(0, 3, 0, 100));
    }

    private static void sellersHaveNoPurse() {
        judged(5, NONE, row(0, 0, 0, 999), row(0, 1, 1, 999), row(0, 2, 2, 999));
    }

    private static void firstWrong() {
        judged(5, 0, row(5, 3, 0, 101), row(4, 3, 0, 101), row(3, 3, 0, 101));
        judged(5, 1, row(5, 3, 0, 50), row(4, 3, 1, 50), row(4, 3, 0, 50));
        judged(5, 1, row(5, 3, 0, 50), row(5, 3, 1, 51), row(4, 3, 0, 50));
        judged(5, 1, row(5, 3, 0, 50), row(6, 3, 0, 50), row(4, 3, 1, 999));
    }

    private static void lastWrong() {
        for (int last = 0; last < 3; last++) {
            ClothPrices x = fair(1);
            for (int k = 0; k < 29; k++) {
                x.write(k, 3, k % 3, 100);
            }
            due("29 twenty-nine that are right", x.judge(), NONE);
            due("27 the thirtieth", x.write(last == 0 ? 27 : 29, 3, last == 1 ? 0 : 2, last == 1 ? 101 : 100), 30);
            due("29 the thirtieth", x.judge(), last == 2 ? NONE : 29);
        }
    }

    /** What is bound, SOLD, spent, and which BEAT it is, is not THE BOOK's, and it binds nobody. */
    private static void bookAlone() {
        ClothPrices x = Twin.after(Twin::busy);
        x.tear();
        due("27", x.write(0, 2, 1, 90), 1);
        due("29 it is bound and has spent", x.judge(), NONE);
        due("27", x.write(0, 0, 0, 40), 2);
        due("27", x.write(0, 2, 0, 1), 3);
        due("29 beyond the PURSE", x.judge(), 2);
        due("8 bound as it was", x.bound(2, 1, 0), 10);
        due("9 SOLD as it was", x.lot(0, 1), 30);
        x.beat(99);
        due("29 whatever BEAT it is", x.judge(), 2);
        due("28", x.tear(), 3);
        x.write(9999, 3, 1, 150);
        due("29", x.judge(), NONE);
        due("8 nobody is bound by it", x.bound(3, 1, 0), NONE);
    }

    private static void bookOfAnotherMarket() {
        ClothPrices x = fair(5);
        x.write(0, 4, 0, 1);
        Check.feed(x, "seller");
        due("3 a FAULT", x.market(), -11);
        due("29 it stays", x.judge(), 0);
        Check.feed(x, "seller 5 1;");
        due("3", x.market(), 1);
        due("5 none", x.told(8), 0);
        due("29 none", x.judge(), NONE);
        due("28 none", x.tear(), 0);
    }

    private static void imageNumbers() {
        ClothPrices x = fair(5);
        due("31 -1", x.keep(-1), UNKNOWN);
        due("31 2", x.keep(2), UNKNOWN);
        due("32 -1", x.goBack(-1), UNKNOWN);
        due("32 2", x.goBack(2), UNKNOWN);
        due("31 0", x.keep(0), 1);
        due("31 1", x.keep(1), 1);
        due("32 0", x.goBack(0), 1);
        due("32 1", x.goBack(1), 1);
    }

    private static void notKept() {
        for (int i = 0; i < 2; i++) {
            ClothPrices x = fair(5);
            due("32 neither is kept", x.goBack(i), NOT);
            x.keep(1 - i);
            due("32 the other one is kept", x.goBack(i), NOT);
            due("32 the other one", x.goBack(1 - i), 1);
            x.keep(i);
            due("32 kept", x.goBack(i), 1);
            x.market();
            due("32 another market", x.goBack(0), NOT);
            due("32 another market", x.goBack(1), NOT);
            x.keep(i);
            Check.feed(x, "x");
            due("3 a FAULT", x.market(), -11);
            due("32 it stays by a FAULT", x.goBack(i), 1);
            due("32 not kept still", x.goBack(1 - i), NOT);
        }
    }

    private static void changeAll(ClothPrices x) {
        x.loose(0, 2);
        x.loose(1, 3);
        x.hold(3, 5);
        x.hold(1, 5);
        Check.press(x, "xxxx", 3, 5, 1, 0, NONE);
        x.beat(50);
        Check.press(x, "xxxx", 3, 5, 1, 0, NONE);
        Check.press(x, "xxxx", 1, 5, 1, 0, NONE);
        x.drift(7);
        x.seed(123456);
    }

    /** Hands, BEATS, what is bound, SOLD, spent, gained, THE SEED: all come back. */
    private static void allIsKept() {
        ClothPrices changed = Twin.after(Twin::busy);
        changeAll(changed);
        due("9 SOLD since", changed.told(7), 3);
        due("6 gained since", changed.person(5, 4), 20);
        for (int i = 0; i < 2; i++) {
            ClothPrices x = Twin.after(Twin::busyWithText);
            x.keep(i);
            x.feed(1, ' ');
            changeAll(x);
            Check.feed(x, "xxi");
            due("32", x.goBack(i), 1);
            ClothPrices y = Twin.after(Twin::busyWithText);
            y.keep(i);
            Twin.same("32 as it was", x, y);
        }
    }

    /** THE TEXT, THE BOOK, what was SEEN are no part of an IMAGE. */
    private static void notKeptBesides() {
        ClothPrices x = Twin.after(Twin::busy);
        x.keep(1);
        Check.feed(x, "cxi");
        x.write(4, 3, 1, 9);
        x.seen(1, 1, 1, false);
        due("32", x.goBack(1), 1);
        due("13 THE TEXT", x.price(), 111);
        due("5 THE BOOK", x.told(8), 3);
        due("5 SEEN", x.told(9), 3);
        due("32", x.goBack(0), 1);
        x.tear();
        x.forget();
        due("32", x.goBack(1), 1);
        due("5 THE BOOK is torn", x.told(8), 0);
        due("5 nothing is SEEN", x.told(9), 0);
    }

    private static void imagesAreTwo() {
        ClothPrices x = new ClothPrices();
        x.beat(1);
        x.seed(11);
        x.keep(0);
        x.beat(1);
        x.seed(22);
        x.keep(1);
        x.beat(1);
        x.seed(33);
        x.goBack(0);
        due("32 IMAGE 0", x.told(4), 1);
        due("32 IMAGE 0", x.seed(0), 11);
        x.goBack(1);
        due("32 IMAGE 1", x.told(4), 2);
        due("32 IMAGE 1", x.seed(0), 22);
        x.goBack(0);
        due("32 IMAGE 0 again", x.told(4), 1);
    }

    /** What goes on from an IMAGE leaves it as it is, till it is kept anew. */
    private static void imageStays() {
        ClothPrices x = fair(5);
        x.hold(0, 3);
        x.keep(0);
        Check.press(x, "xx", 3, 0, 0, 0, NONE);
        x.goBack(0);
        due("8 not bound", x.bound(3, 0, 0), NONE);
        Check.press(x, "xxx", 3, 0, 0, 0, NONE);
        Check.press(x, "xxx", 0, 3, 0, 0, NONE);
        due("9 SOLD", x.lot(0, 1), 30);
        x.goBack(0);
        due("9 not SOLD", x.lot(0, 1), NONE);
        due("6 spent nothing", x.person(3, 4), 0);
        x.loose(0, 3);
        x.beat(9);
        x.goBack(0);
        due("6 held", x.person(0, 2), 8);
        due("5 BEATS", x.told(4), 0);
        x.beat(4);
        due("31 anew", x.keep(0), 1);
        x.beat(1);
        x.goBack(0);
        due("5 BEATS", x.told(4), 4);
    }

    private static void imagesOfNothing() {
        ClothPrices x = new ClothPrices();
        due("32 a new object", x.goBack(0), NOT);
        due("32 a new object", x.goBack(1), NOT);
        due("31 a new object", x.keep(1), 1);
        due("32 kept", x.goBack(1), 1);
        due("32 not kept", x.goBack(0), NOT);
        Check.feed(x, "seller 5 1;");
        x.market();
        due("32 no IMAGES of another market", x.goBack(1), NOT);
    }
}
