import java.util.function.ToIntFunction;

/** Part 1 of the document and promises 1 to 9: each boundary that they name, on both sides. */
public final class MarketEdgeTest {
    private static final int NONE = ClothPrices.NONE, OUTSIDE = ClothPrices.OUTSIDE, FULL = ClothPrices.FULL;
    private static final String SELLER = "seller 1 1;";
    private static final String BUYER = "buyer 1 1 1;";
    private static final String BROKER = "broker 1 1;";

    private MarketEdgeTest() {
    }

    public static void main(String[] args) {
        newObject();
        lastCall();
        feedCounts();
        feedBytes();
        feedFull();
        longTexts();
        numbers();
        counts();
        greatestMarket();
        once();
        orders();
        leastOfFaults();
        firstOfFaults();
        worthCounts();
        buyerWithoutSeller();
        words();
        blanks();
        otherBytes();
        cutTexts();
        marketAnew();
        latestFault();
        numbersOfPersons();
        Check.end();
    }

    private static void due(String call, long got, long want) {
        Check.due(call, got, want);
    }

    private static void taken(String text, int persons) {
        ClothPrices x = new ClothPrices();
        Check.feed(x, text);
        due("3 market of " + text, x.market(), persons);
        due("4 fault of " + text, x.fault(), NONE);
    }

    private static void fault(String text, int number, int at) {
        ClothPrices x = new ClothPrices();
        Check.feed(x, text);
        due("3 market of " + text, x.market(), -10 - number);
        due("4 fault of " + text, x.fault(), at);
        due("3 no PERSONS by " + text, x.told(0) + x.told(1) + x.told(2), 0);
        due("3 N by " + text, x.told(5), 12);
        due("3 C by " + text, x.told(6), 2);
    }

    private static void newObject() {
        ClothPrices x = new ClothPrices();
        for (int what = 0; what <= 9; what++) {
            due("1 told " + what, x.told(what), what == 5 ? 12 : what == 6 ? 2 : 0);
        }
        due("1 fault", x.fault(), NONE);
        due("1 price", x.price(), NONE);
        due("1 forget", x.forget(), 0);
        due("1 tear", x.tear(), 0);
        due("1 judge", x.judge(), NONE);
        due("1 market", x.market(), 0);
        due("1 drift", x.drift(1), 0);
        due("1 THE SEED: nobody draws", x.seed(0), 0);
        due("1 keep", x.keep(0), 1);
        due("1 goBack", x.goBack(0), 1);
    }

    /** Of 512 calls the last one is promised, too. */
    private static void lastCall() {
        ClothPrices x = new ClothPrices();
        for (int k = 1; k <= 512; k++) {
            due("call " + k, x.beat(99), 99 * k);
        }
        ClothPrices y = new ClothPrices();
        for (int k = 1; k < 512; k++) {
            y.feed(1, ' ');
        }
        due("call 512", y.market(), 0);
    }

    private static void feedCounts() {
        ClothPrices x = new ClothPrices();
        due("2 n 0", x.feed(0, 0), OUTSIDE);
        due("2 n 9", x.feed(9, 0), OUTSIDE);
        int bytes = 0;
        for (int n = 1; n <= 8; n++) {
            bytes += n;
            due("2 n " + n, x.feed(n, 0), bytes);
            due("5 bytes", x.told(3), bytes);
        }
    }

    /** Of n bytes the highest comes first, and what is above them is not looked at. */
    private static void feedBytes() {
        String signs = "cccxxdii";
        int[] sums = {100, 200, 300, 310, 320, 640, 641, 642};
        long above = -1L;
        for (int n = 1; n <= 8; n++) {
            long packed = n < 8 ? above << (8 * n) : 0;
            for (int k = 0; k < n; k++) {
                packed |= (long) signs.charAt(k) << (8 * (n - 1 - k));
            }
            ClothPrices x = new ClothPrices();
            x.feed(n, packed);
            due("2 the bytes of " + n, x.price(), sums[n - 1]);
        }
    }

    private static void feedFull() {
        for (int n = 1; n <= 8; n++) {
            ClothPrices x = new ClothPrices();
            Check.feed(x, " ".repeat(500 - n));
            due("2 the last " + n, x.feed(n, 0x2020202020202020L), 500);
            due("2 not one more", x.feed(n, 0), FULL);
            due("2 of 500 blanks", x.market(), 0);
            Check.feed(x, SELLER + " ".repeat(501 - n - SELLER.length()));
            due("2 one too many of " + n, x.feed(n, -1L), FULL);
            due("2 as many as there were", x.told(3), 501 - n);
            due("2 what was there", x.market(), 1);
            due("2 empty again", x.feed(n, 0), n);
        }
    }

    private static void longTexts() {
        taken(" ".repeat(489) + SELLER, 1);
        taken(SELLER + " ".repeat(489), 1);
        fault(" ".repeat(490) + "seller 1 1", 1, 500);
        fault(" ".repeat(499) + ";", 1, 499);
        fault("a".repeat(500), 1, 0);
        fault("seller " + "1".repeat(493), 2, 7);
        fault(SELLER + " ".repeat(488) + "x", 1, 499);
    }

    /** A NUMBER's least and greatest, what is beyond them, how many figures it has. */
    private static void number(String before, String after, int least, int most, ToIntFunction<ClothPrices> told) {
        for (int v : new int[] {least, most}) {
            for (String figures : new String[] {Integer.toString(v), String.format("%04d", v)}) {
                ClothPrices x = new ClothPrices();
                Check.feed(x, before + figures + after);
                due("3 market of " + before + figures + after, x.market() >= 0 ? 1 : 0, 1);
                due("3 " + before + figures + after, told.applyAsInt(x), v);
            }
            fault(before + String.format("%05d", v) + after, 2, before.length());
        }
        fault(before + (most + 1) + after, 2, before.length());
        fault(before + "9999999999999999999" + after, 2, before.length());
        fault(before + "4294967297" + after, 2, before.length());
        if (least > 0) {
            fault(before + (least - 1) + after, 2, before.length());
            fault(before + "0000" + after, 2, before.length());
        }
        fault(before + "-1" + after, 1, before.length());
        fault(before + "x" + after, 1, before.length());
    }

    private static void numbers() {
        number("seller ", " 1;", 0, 999, x -> x.person(0, 3));
        number("seller 5 ", ";", 1, 2, x -> x.person(0, 0));
        number("seller 5 1;buyer ", " 7 8;", 1, 2, x -> x.person(1, 0));
        number("seller 5 1;buyer 1 ", " 8;", 0, 9999, x -> x.person(1, 3));
        number("seller 5 1;buyer 1 7 ", ";", 0, 999, x -> x.worth(0, 0));
        number("seller 5 1;seller 6 2;buyer 1 7 ", ",9;", 0, 999, x -> x.worth(0, 0));
        number("seller 5 1;seller 6 2;buyer 1 7 9,", ";", 0, 999, x -> x.worth(0, 1));
        number("broker ", " 9;", 1, 2, x -> x.person(0, 0));
        number("broker 1 ", ";", 0, 50, x -> x.person(0, 3));
        number("binds ", ";", 1, 99, x -> x.told(5));
        number("cost ", ";", 0, 99, x -> x.told(6));
    }

    private static void counts() {
        for (int n = 1; n <= 6; n++) {
            taken(SELLER.repeat(n), n);
            taken(SELLER + BUYER.repeat(n), 1 + n);
        }
        fault(SELLER.repeat(7), 3, 66);
        fault(SELLER.repeat(6) + "seller", 3, 66);
        fault(SELLER + BUYER.repeat(7), 3, 11 + 72);
        fault(SELLER + BUYER.repeat(6) + "  buyer 9", 3, 11 + 72 + 2);
        taken(BROKER, 1);
        taken(BROKER.repeat(2), 2);
        fault(BROKER.repeat(3), 3, 22);
        fault(BROKER.repeat(2) + "cost 1;broker", 3, 29);
    }

    /** All that there can be, each NUMBER at its greatest. */
    private static void greatestMarket() {
        ClothPrices x = new ClothPrices();
        Check.feed(x, "seller 999 2;".repeat(6) + "buyer 2 9999 999,999,999,999,999,999;".repeat(6)
            + "broker 2 50;".repeat(2) + "binds 99;cost 99;");
        due("3 the greatest market", x.market(), 14);
        due("5 SELLERS", x.told(0), 6);
        due("5 BUYERS", x.told(1), 6);
        due("5 BROKERS", x.told(2), 2);
        for (int p = 0; p < 14; p++) {
            due("6 hands of " + p, x.person(p, 0), 2);
            due("6 free hands of " + p, x.person(p, 1), 2);
            due("6 what " + p + " has", x.person(p, 3), p < 6 ? 999 : p < 12 ? 9999 : 50);
        }
        for (int k = 0; k < 36; k++) {
            due("7 WORTH", x.worth(k / 6, k % 6), 999);
        }
        due("10 the first and the last", x.hold(0, 13), 1);
        due("6 a SET", x.person(0, 2), 1 << 13);
        due("6 nobody behind them", x.person(14, 0), ClothPrices.UNKNOWN);
        due("7 no BUYER behind them", x.worth(6, 0), ClothPrices.UNKNOWN);
        due("7 no LOT behind them", x.worth(0, 6), ClothPrices.UNKNOWN);
    }

    private static void once() {
        ClothPrices x = new ClothPrices();
        Check.feed(x, "seller 1 1;");
        x.market();
        due("5 N untold", x.told(5), 12);
        due("5 C untold", x.told(6), 2);
        Check.feed(x, "binds 12;cost 2;");
        due("3 once each", x.market(), 0);
        Check.feed(x, "cost 7;");
        x.market();
        due("5 N untold again", x.told(5), 12);
        due("5 C", x.told(6), 7);
        fault("binds 12;binds 12;", 3, 9);
        fault("cost 2;cost 2;", 3, 7);
        fault("cost 2; cost", 3, 8);
        fault("binds 12;cost 2;seller 1 1;binds 3;", 3, 27);
        fault("cost 2;binds 12;broker 1 1;cost 3;", 3, 27);
    }

    private static void orders() {
        taken(SELLER + BUYER + BROKER, 3);
        taken(SELLER + BROKER, 2);
        taken("cost 1;" + SELLER + "binds 1;" + BUYER + BROKER, 3);
        taken(SELLER + "cost 1;" + BUYER + "binds 1;" + BROKER, 3);
        taken(SELLER + BUYER + BROKER + "binds 1;cost 1;", 3);
        fault(SELLER + BUYER + SELLER, 4, 23);
        fault(SELLER + BUYER + "cost 1; seller", 4, 31);
        fault(BROKER + SELLER, 4, 11);
        fault(SELLER + BROKER + SELLER, 4, 22);
        fault(SELLER + BROKER + BUYER, 4, 22);
        fault(SELLER + BUYER + BROKER + BUYER, 4, 34);
        fault(SELLER + BUYER + BROKER + SELLER, 4, 34);
    }

    /** At one byte the least of its FAULTS is told. */
    private static void leastOfFaults() {
        fault(SELLER.repeat(6) + BROKER + SELLER, 3, 77);
        fault(SELLER.repeat(5) + BROKER + SELLER, 4, 66);
        fault(SELLER.repeat(6) + "buyer 1 1 1,1,1,1,1,1;" + SELLER, 3, 88);
        fault(SELLER + BUYER.repeat(6) + BROKER + BUYER, 3, 11 + 72 + 11);
        fault(SELLER + BUYER.repeat(5) + BROKER + BUYER, 4, 11 + 60 + 11);
        fault("seller 1 1 99999;", 1, 11);
        fault("binds 5 0;", 1, 8);
        fault("buyer 1 1 10000;", 1, 10);
        fault("99999", 1, 0);
        fault(BROKER + "buyer 1 1 1;", 4, 11);
    }

    /** Of several FAULTS that at the first byte is told, whatever its number is. */
    private static void firstOfFaults() {
        fault("seller 1000 3;", 2, 7);
        fault("seller 1 3,", 2, 9);
        fault("seller 1,3;", 1, 8);
        fault("cost 1;cost 100;", 3, 7);
        fault("cost 100;cost 1;", 2, 5);
        fault(BROKER + "seller 1000 1;", 4, 11);
        fault(SELLER + "buyer 3 10000;", 2, 17);
        fault("buyer 0 5;", 2, 6);
    }

    /** As many WORTHS as there are LOTS: with fewer the ';' is too early, with more a ',' stands where ';' has to. */
    private static void worthCounts() {
        for (int lots = 1; lots <= 6; lots++) {
            String before = SELLER.repeat(lots) + "buyer 1 5 ";
            for (int many = 1; many <= 7; many++) {
                String text = before + "1,".repeat(many - 1) + "1;";
                if (many == lots) {
                    taken(text, lots + 1);
                } else {
                    fault(text, 1, before.length() + 2 * Math.min(many, lots) - 1);
                }
            }
            fault(before + ";", 1, before.length());
            fault(before + ",1;", 1, before.length());
            fault(before + "1,".repeat(lots) + ";", 1, before.length() + 2 * lots - 1);
            fault(before + "1 ".repeat(lots) + "1;", 1, before.length() + 2);
            fault(before + "1,".repeat(lots - 1) + "1", 1, before.length() + 2 * lots - 1);
        }
        fault(SELLER.repeat(2) + "buyer 1 5 1,,1;", 1, 34);
        fault(SELLER.repeat(2) + "buyer 1 5 1;1;", 1, 33);
        fault(SELLER.repeat(2) + "buyer 1 5 1,;", 1, 34);
        fault(SELLER.repeat(2) + "buyer 1 5,1,1;", 1, 31);
        taken(SELLER.repeat(2) + "buyer 1 5 1 , 1 ;", 3);
    }

    private static void buyerWithoutSeller() {
        fault("buyer 1 5;", 1, 9);
        fault("buyer 1 5 ;", 1, 10);
        fault("buyer 1 5 1;", 1, 10);
        fault("buyer 1 5 1000;", 1, 10);
        fault("buyer 1 5   1;", 1, 12);
        fault("buyer 1 5,1;", 1, 9);
        fault("buyer 1 5", 1, 9);
        fault("buyer 1 5  ", 1, 11);
        fault("buyer 1;", 1, 7);
        fault("buyer", 1, 5);
        fault("cost 1;buyer 1 5 1;" + SELLER, 1, 17);
    }

    private static void words() {
        for (String word : new String[] {"seller", "buyer", "broker", "binds", "cost"}) {
            fault(word.substring(1) + " 1 1;", 1, 0);
            fault(word.substring(0, word.length() - 1) + " 1 1;", 1, 0);
            fault(word + "s 1 1;", 1, 0);
            fault("a" + word + " 1 1;", 1, 0);
            fault(" " + word + word + " 1 1;", 1, 1);
            fault(word + " " + word + " 1;", 1, word.length() + 1);
            fault(word.substring(0, 2) + " " + word.substring(2) + " 1 1;", 1, 0);
            fault(word.toUpperCase() + " 1 1;", 1, 0);
            fault(word + ";", 1, word.length());
            fault(word + " ,", 1, word.length() + 1);
        }
        fault("a", 1, 0);
        fault("z", 1, 0);
        fault("seller 1 1 seller;", 1, 11);
        fault("seller 1 1;z", 1, 11);
        fault("seller 1a 1;", 1, 8);
    }

    /** Blanks may stand at all places but within words and NUMBERS; two of a sort side by side need one. */
    private static void blanks() {
        taken("", 0);
        taken(" ", 0);
        taken("seller1 1;seller1 1;buyer1 1 1,1;broker1 1;binds1;cost1;", 4);
        taken("  seller  1  1  ;  buyer  1  1  1  ;  broker  1  1  ;  binds  1  ;  cost  1  ;  ", 3);
        fault("seller11;", 1, 8);
        fault("seller 1 0 1;", 2, 9);
        fault("sell er1 1;", 1, 0);
        fault("binds 9 9;", 1, 8);
        taken("binds 99;", 0);
        fault("seller 99 9 1;", 2, 10);
        fault(SELLER + "buyer 15 5;", 2, 17);
        fault(SELLER + "buyer 1 5;", 1, 20);
        fault(SELLER + "buyer 1 5 ;", 1, 21);
        fault(";", 1, 0);
        fault(SELLER + ";", 1, 11);
        fault("binds 1 ;;", 1, 9);
    }

    /** No byte but letters, figures, ',', ';' and the blank is of the language, wherever it stands. */
    private static void otherBytes() {
        for (int b = 0; b < 256; b++) {
            char c = (char) b;
            boolean isLetter = c >= 'a' && c <= 'z';
            boolean isFigure = c >= '0' && c <= '9';
            if (c == ' ') {
                taken(c + SELLER, 1);
                taken("seller" + c + "1 1;", 1);
                taken("seller 1" + c + "1;", 1);
                taken(SELLER + c, 1);
                continue;
            }
            fault(c + " " + SELLER, 1, 0);
            fault(SELLER + c, 1, 11);
            if (isLetter) {
                fault("seller" + c + "1 1;", 1, 0);
            } else if (!isFigure) {
                fault("seller" + c + "1 1;", 1, 6);
            }
            if (!isFigure) {
                fault("seller 1" + c + "1;", 1, 8);
                fault("seller 1 1" + c + ";", 1, c == ';' ? 11 : 10);
            }
        }
        taken("seller01 1;", 1);
        fault("seller1 10;", 2, 8);
    }

    /** A text that ends too early: at its length, or at the first letter of a word that is no word yet. */
    private static void cutTexts() {
        String whole = "seller 40 1; seller 25 2;binds 15 ;buyer 2 90 60 , 30;cost 3;broker 2 10;";
        for (int size = 0; size <= whole.length(); size++) {
            String text = whole.substring(0, size);
            String open = text.substring(text.lastIndexOf(';') + 1);
            int start = size - open.length() + open.length() - open.stripLeading().length();
            String word = text.substring(start);
            if (open.isBlank()) {
                taken(text, text.replaceAll("binds|cost", "").split("[a-z]+", -1).length - 1);
            } else if (word.matches("[a-z]+") && !word.matches("seller|buyer|broker|binds|cost")) {
                fault(text, 1, start);
            } else {
                fault(text, 1, size);
            }
        }
    }

    private static void marketAnew() {
        ClothPrices x = Twin.after(Twin::busyWithText);
        x.keep(1);
        due("3 a text that is a PRESS", x.market(), -11);
        due("4 at its first letter", x.fault(), 0);
        due("3 THE TEXT is empty", x.told(3), 0);
        due("3 IMAGES stay by a FAULT", x.goBack(1), 1);
        due("3 IMAGES stay by a FAULT", x.goBack(0), 1);
        Check.feed(x, Twin.FAIR);
        due("3 anew", x.market(), 6);
        ClothPrices y = new ClothPrices();
        y.seed(77);
        Check.feed(y, Twin.FAIR);
        y.market();
        Twin.same("3 as if nothing had been", x, y);
        ClothPrices z = Twin.after(Twin::busy);
        z.market();
        ClothPrices fresh = new ClothPrices();
        fresh.seed(77);
        Twin.same("3 of an empty text: no PERSONS", z, fresh);
    }

    private static void latestFault() {
        ClothPrices x = new ClothPrices();
        due("4 before any market", x.fault(), NONE);
        Check.feed(x, "cost 100;");
        due("4 before any market", x.fault(), NONE);
        due("3", x.market(), -12);
        due("4", x.fault(), 5);
        Check.feed(x, ";");
        x.beat(1);
        due("4 still the latest", x.fault(), 5);
        due("3", x.market(), -11);
        due("4 the first byte", x.fault(), 0);
        due("3 an empty text", x.market(), 0);
        due("4 none", x.fault(), NONE);
        Check.feed(x, "binds 0");
        due("3", x.market(), -12);
        Check.feed(x, SELLER);
        due("3", x.market(), 1);
        due("4 none", x.fault(), NONE);
    }

    /** PERSONS are numbered on, LOTS and BUYERS from 0. */
    private static void numbersOfPersons() {
        ClothPrices x = Check.market("seller 10 1;cost 9;seller 11 2;buyer 1 20 30,31;buyer 2 21 40,41;buyer 1 22 50,51;"
            + "broker 1 1;binds 3;broker 2 2;");
        int[] has = {10, 11, 20, 21, 22, 1, 2};
        int[] hands = {1, 2, 1, 2, 1, 1, 2};
        for (int p = 0; p < 7; p++) {
            due("6 what " + p + " has", x.person(p, 3), has[p]);
            due("6 hands of " + p, x.person(p, 0), hands[p]);
            due("6 gained, spent of " + p, x.person(p, 4), 0);
            due("6 held by " + p, x.person(p, 2), 0);
        }
        for (int b = 0; b < 3; b++) {
            due("7 of LOT 0", x.worth(b, 0), 30 + 10 * b);
            due("7 of LOT 1", x.worth(b, 1), 31 + 10 * b);
        }
        for (int l = 0; l < 2; l++) {
            due("9 to nobody", x.lot(l, 0), NONE);
            due("9 for nothing", x.lot(l, 1), NONE);
            due("8 a SELLER's own", x.bound(l, l, 0), NONE);
        }
        due("8 the last BUYER", x.bound(4, 1, 1), NONE);
        due("8 the first BROKER", x.bound(5, 1, 1), ClothPrices.UNKNOWN);
    }
}
