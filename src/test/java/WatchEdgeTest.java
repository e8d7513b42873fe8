import java.util.ArrayList;
import java.util.List;

/** A WATCHER, WENT FOR and MEETINGS, promises 22 to 26: each boundary that they name, on both sides. */
public final class WatchEdgeTest {
    private static final int NONE = ClothPrices.NONE, OUTSIDE = ClothPrices.OUTSIDE, FULL = ClothPrices.FULL;

    private WatchEdgeTest() {
    }

    public static void main(String[] args) {
        bounds();
        tenSeen();
        nothingSeen();
        endsOfPlain();
        endsOfDouble();
        everySight();
        oddPrices();
        allThatWasSeen();
        tenthCounts();
        spentBounds();
        spentOfLots();
        spentOfOne();
        spentOfSeen();
        noSet();
        nobodyMeets();
        worthAtReserve();
        meetingsByHands();
        meetingsByOrder();
        Check.end();
    }

    private static void due(String call, long got, long want) {
        Check.due(call, got, want);
    }

    private static ClothPrices lots(int many) {
        return Check.market("seller 5 1;".repeat(many));
    }

    private static void bounds() {
        ClothPrices x = lots(6);
        due("22 the least", x.seen(0, 0, 0, false), 1);
        due("22 the most", x.seen(5, 60, 9, true), 2);
        due("22 w 0, e 9", x.seen(0, 0, 9, true), 3);
        due("22 w 60, e 0", x.seen(5, 60, 0, false), 4);
        due("22 w -1", x.seen(0, -1, 0, false), OUTSIDE);
        due("22 w 61", x.seen(0, 61, 0, false), OUTSIDE);
        due("22 e -1", x.seen(0, 0, -1, false), OUTSIDE);
        due("22 e 10", x.seen(0, 0, 10, false), OUTSIDE);
        due("22 LOT 6", x.seen(6, 0, 0, false), ClothPrices.UNKNOWN);
        due("22 LOT -1", x.seen(-1, 0, 0, false), ClothPrices.UNKNOWN);
        due("5 SEEN", x.told(9), 4);
    }

    private static void tenSeen() {
        ClothPrices x = lots(6);
        for (int round = 0; round < 2; round++) {
            for (int k = 1; k <= 10; k++) {
                due("22", x.seen(k % 6, 10, 9, false), k);
                due("5 SEEN", x.told(9), k);
            }
            due("22 an eleventh", x.seen(0, 10, 9, false), FULL);
            due("5 SEEN", x.told(9), 10);
            due("23 how many there were", x.forget(), 10);
            due("5 SEEN", x.told(9), 0);
            due("23 none", x.forget(), 0);
        }
    }

    private static void fits(String what, ClothPrices x, int lot, int many, int least, int greatest) {
        due("24 how many: " + what, x.fits(lot, 0), many);
        due("24 the least: " + what, x.fits(lot, 1), least);
        due("24 the greatest: " + what, x.fits(lot, 2), greatest);
    }

    private static void nothingSeen() {
        ClothPrices x = lots(2);
        fits("nothing SEEN", x, 0, 999, 1, 999);
        x.seen(0, 0, 0, false);
        fits("nothing SEEN of LOT 1", x, 1, 999, 1, 999);
        fits("none", x, 0, 0, NONE, NONE);
        x.forget();
        fits("nothing SEEN any more", x, 0, 999, 1, 999);
    }

    private static void sight(int w, int e, boolean isDouble, int many, int least, int greatest) {
        ClothPrices x = lots(1);
        x.seen(0, w, e, isDouble);
        fits(w + " by " + e + (isDouble ? " double" : ""), x, 0, many, least, greatest);
    }

    /** 1 to 27 TWITCHES are of a price: what is SEEN beyond them fits by slips alone. */
    private static void endsOfPlain() {
        sight(0, 0, false, 0, NONE, NONE);
        sight(0, 1, false, 3, 1, 100);
        sight(1, 0, false, 3, 1, 100);
        sight(27, 0, false, 1, 999, 999);
        sight(28, 0, false, 0, NONE, NONE);
        sight(28, 1, false, 1, 999, 999);
        sight(36, 9, false, 1, 999, 999);
        sight(37, 9, false, 0, NONE, NONE);
        sight(36, 8, false, 0, NONE, NONE);
        sight(60, 9, false, 0, NONE, NONE);
        sight(60, 0, false, 0, NONE, NONE);
        sight(0, 9, false, 219, 1, 900);
        sight(26, 0, false, 3, 899, 998);
    }

    /** Half of a price is 1 to 499: 1 to 22 TWITCHES. */
    private static void endsOfDouble() {
        sight(0, 0, true, 0, NONE, NONE);
        sight(1, 0, true, 3, 2, 200);
        sight(0, 1, true, 3, 2, 200);
        sight(22, 0, true, 1, 998, 998);
        sight(23, 0, true, 0, NONE, NONE);
        sight(31, 9, true, 1, 998, 998);
        sight(32, 9, true, 0, NONE, NONE);
        sight(60, 9, true, 0, NONE, NONE);
    }

    private static int signs(int price) {
        int sum = 0;
        for (char figure : Integer.toString(price).toCharArray()) {
            sum += figure - '0';
        }
        return sum;
    }

    /** Every w with every e: within the slips, both ways, and no further. */
    private static void everySight() {
        for (int w = 0; w <= 60; w++) {
            for (int e = 0; e <= 9; e++) {
                for (int times = 1; times <= 2; times++) {
                    List<Integer> fit = new ArrayList<>();
                    for (int price = times; price <= 999; price += times) {
                        int s = signs(price / times);
                        if (s - e <= w && w <= s + e) {
                            fit.add(price);
                        }
                    }
                    int many = fit.size();
                    sight(w, e, times == 2, many, many == 0 ? NONE : fit.get(0), many == 0 ? NONE : fit.get(many - 1));
                }
            }
        }
    }

    private static void oddPrices() {
        ClothPrices x = lots(1);
        x.seen(0, 27, 0, false);
        fits("999", x, 0, 1, 999, 999);
        x.seen(0, 18, 9, true);
        fits("999 is odd", x, 0, 0, NONE, NONE);
        x.forget();
        x.seen(0, 26, 0, false);
        x.seen(0, 22, 0, true);
        fits("998 alone is even", x, 0, 1, 998, 998);
        x.forget();
        x.seen(0, 1, 0, false);
        x.seen(0, 1, 0, true);
        fits("2, 20, 200 have two TWITCHES", x, 0, 0, NONE, NONE);
        x.forget();
        x.seen(0, 1, 0, false);
        x.seen(0, 5, 0, true);
        fits("10 and 100 are twice 5 and 50, 1 is odd", x, 0, 2, 10, 100);
    }

    private static void allThatWasSeen() {
        ClothPrices x = lots(2);
        x.seen(0, 3, 1, false);
        x.seen(1, 27, 0, false);
        x.seen(0, 1, 1, false);
        // two TWITCHES alone: 2, 11, 20, 101, 110, 200
        fits("both of LOT 0", x, 0, 6, 2, 200);
        fits("that of LOT 1", x, 1, 1, 999, 999);
        x.seen(0, 3, 0, false);
        fits("none fits all three", x, 0, 0, NONE, NONE);
    }

    private static void tenthCounts() {
        ClothPrices x = lots(1);
        for (int k = 0; k < 9; k++) {
            x.seen(0, 10, 9, false);
        }
        due("24 one to nineteen", x.fits(0, 2), 991);
        x.seen(0, 1, 0, false);
        fits("the tenth", x, 0, 3, 1, 100);
        due("22 the eleventh", x.seen(0, 27, 0, false), FULL);
        fits("not the eleventh", x, 0, 3, 1, 100);
    }

    private static void spent(ClothPrices x, int s, int sets, int inAll) {
        due("25 SETS for " + s, x.wentFor(s, 0), sets);
        due("25 LOTS in all of them for " + s, x.wentFor(s, 1), inAll);
    }

    private static void spentBounds() {
        ClothPrices x = lots(6);
        spent(x, 0, 1, 0);
        spent(x, 9999, 0, NONE);
        spent(x, -1, OUTSIDE, OUTSIDE);
        spent(x, 10000, OUTSIDE, OUTSIDE);
        due("25 what -1", x.wentFor(0, -1), OUTSIDE);
        due("25 what 2", x.wentFor(0, 2), OUTSIDE);
        ClothPrices none = new ClothPrices();
        spent(none, 0, 1, 0);
        spent(none, 1, 0, NONE);
        spent(none, 9999, 0, NONE);
    }

    /** SETS of k LOTS go for k to 999 times k. */
    private static void spentOfLots() {
        int[] choose = {1, 6, 15, 20, 15, 6, 1};
        ClothPrices x = lots(6);
        for (int k = 0; k <= 6; k++) {
            for (int s : new int[] {k - 1, k, k + 1, 999 * k - 1, 999 * k, 999 * k + 1}) {
                int sets = 0;
                for (int size = 0; size <= 6; size++) {
                    sets += s >= size && s <= 999 * size ? choose[size] : 0;
                }
                if (s >= 0) {
                    spent(x, s, sets, sets == 0 ? NONE : sets == 1 && s > 0 ? 63 : 0);
                }
            }
        }
        spent(x, 4995, 7, 0);
        spent(x, 4996, 1, 63);
        spent(x, 5994, 1, 63);
        spent(x, 5995, 0, NONE);
    }

    private static void spentOfOne() {
        ClothPrices x = lots(1);
        spent(x, 0, 1, 0);
        spent(x, 1, 1, 1);
        spent(x, 999, 1, 1);
        spent(x, 1000, 0, NONE);
    }

    /** A LOT whose price is known, one that cannot have gone, one of which nothing was SEEN. */
    private static void spentOfSeen() {
        ClothPrices x = lots(3);
        x.seen(0, 27, 0, false);
        x.seen(1, 60, 0, false);
        spent(x, 0, 1, 0);
        spent(x, 998, 1, 4);
        spent(x, 999, 2, 0);
        spent(x, 1000, 1, 5);
        spent(x, 1998, 1, 5);
        spent(x, 1999, 0, NONE);
        x.forget();
        spent(x, 1999, 1, 7);
        spent(x, 2997, 1, 7);
        spent(x, 2998, 0, NONE);
        ClothPrices y = lots(6);
        for (int l = 0; l < 6; l++) {
            y.seen(l, 1, 0, true);
        }
        // 2, 20, 200 each
        spent(y, 2, 6, 0);
        spent(y, 1, 0, NONE);
        spent(y, 12, 1, 63);
        spent(y, 10, 6, 0);
        spent(y, 11, 0, NONE);
        spent(y, 1200, 1, 63);
        spent(y, 1182, 0, NONE);
        spent(y, 1020, 1, 63);
        spent(y, 1002, 1, 63);
        spent(y, 1000, 6, 0);
    }

    /** Nothing fits any LOT: the empty SET alone, for nothing. */
    private static void noSet() {
        ClothPrices x = lots(6);
        for (int l = 0; l < 6; l++) {
            x.seen(l, 0, 0, false);
        }
        spent(x, 0, 1, 0);
        spent(x, 1, 0, NONE);
        spent(x, 5994, 0, NONE);
    }

    private static void meet(String text, int byHands, int byOrder) {
        ClothPrices x = Check.market(text);
        due("26 by hands: " + text, x.meetings(0), byHands);
        due("26 by order: " + text, x.meetings(1), byOrder);
        due("26 what -1", x.meetings(-1), OUTSIDE);
        due("26 what 2", x.meetings(2), OUTSIDE);
    }

    private static void nobodyMeets() {
        meet("", 0, 0);
        meet("seller 0 1;", 0, 0);
        meet("broker 2 1;", 0, 0);
        meet("seller 5 2;seller 5 2;buyer 2 9999 4,4;buyer 1 0 4,4;broker 2 1;", 0, 0);
    }

    /** RESERVE not above WORTH. */
    private static void worthAtReserve() {
        meet("seller 5 1;buyer 1 0 4;", 0, 0);
        meet("seller 5 1;buyer 1 0 5;", 1, 1);
        meet("seller 5 1;buyer 1 0 6;", 1, 1);
        meet("seller 0 1;buyer 1 0 0;", 1, 1);
        meet("seller 999 1;buyer 1 0 998;", 0, 0);
        meet("seller 999 1;buyer 1 0 999;", 1, 1);
    }

    /** So many meetings by one hand or two, the last one alone if they are odd. */
    private static void meetingsByHands() {
        for (int hands = 1; hands <= 2; hands++) {
            for (int many = 1; many <= 6; many++) {
                int beats = hands == 1 ? many : (many + 1) / 2;
                meet("seller 5 " + hands + ";" + "buyer 1 0 5;".repeat(many), beats, beats);
                meet("seller 5 " + hands + ";" + "buyer 2 0 5;".repeat(many), beats, beats);
                String worths = "5" + ",5".repeat(many - 1) + ";";
                meet("seller 5 1;".repeat(many) + "buyer " + hands + " 0 " + worths, beats, beats);
                meet("seller 5 2;".repeat(many) + "buyer " + hands + " 0 " + worths, beats, beats);
            }
        }
    }

    /** Pair by pair, each in the first BEAT in which both have a free hand. */
    private static void meetingsByOrder() {
        // 0-0 at 0, 0-1 at 1, 1-0 at 1, 1-1 at 0
        meet("seller 5 1;seller 5 1;buyer 1 0 5,5;buyer 1 0 5,5;", 2, 2);
        // 0-1 at 0, 1-0 at 0, 1-1 at 1, 2-0 at 1, 2-1 at 2
        meet("seller 5 1;seller 5 1;seller 5 1;buyer 1 0 4,5,5;buyer 1 0 5,5,5;", 3, 3);
        // 0-0 at 0, 1-0 at 1, 1-1 at 0, 2-1 at 1, 2-2 at 0, 2-0 at 2
        meet("seller 5 1;seller 5 1;seller 5 1;buyer 1 0 5,5,5;buyer 1 0 4,5,5;buyer 1 0 4,4,5;", 3, 3);
        // three each way by one hand: 0 1 2, 1 0 3, 2 3 0
        meet("seller 5 1;".repeat(3) + "buyer 1 0 5,5,5;".repeat(3), 3, 4);
        // four each way: 0 1 2 3, 1 0 3 2, 2 3 0 1, 3 2 1 0
        meet("seller 5 1;".repeat(4) + "buyer 1 0 5,5,5,5;".repeat(4), 4, 4);
        meet("seller 5 1;".repeat(6) + "buyer 1 0 5,5,5,5,5,5;".repeat(6), 6, 8);
        meet("seller 5 2;".repeat(6) + "buyer 2 0 5,5,5,5,5,5;".repeat(6), 3, 4);
    }
}
