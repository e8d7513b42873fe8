/** For each promise of the document: ordinary inputs, the edges that it names, wrong inputs. */
public final class PromiseTest {
    private static final int NONE = ClothPrices.NONE, UNKNOWN = ClothPrices.UNKNOWN, OUTSIDE = ClothPrices.OUTSIDE;
    private static final int NOT = ClothPrices.NOT, FULL = ClothPrices.FULL;
    /** SELLERS 0, 1; BUYERS 2, 3; BROKERS 4, 5. */
    private static final String FAIR = "binds 5;cost 3;seller 40 2;seller 25 2;buyer 2 90 60,30;"
        + "buyer 2 150 50,45;broker 2 10;broker 2 50;";

    private PromiseTest() {
    }

    private static void due(String call, long got, long want) {
        Check.due(call, got, want);
    }

    public static void main(String[] args) {
        newObject();
        feed();
        market();
        faults();
        told();
        person();
        worthAndBound();
        lot();
        hold();
        loose();
        press();
        pressForAnother();
        pressRefused();
        purse();
        sales();
        price();
        twitches();
        beat();
        drift();
        bargain();
        best();
        span();
        lie();
        bestLie();
        seen();
        fits();
        wentFor();
        meetings();
        write();
        judge();
        seed();
        images();
        Check.end();
    }

    private static void newObject() {
        ClothPrices x = new ClothPrices();
        for (int what = 0; what <= 9; what++) {
            due("1 told(" + what + ")", x.told(what), what == 5 ? 12 : what == 6 ? 2 : 0);
        }
        due("1 person", x.person(0, 0), UNKNOWN);
        due("1 worth", x.worth(0, 0), UNKNOWN);
        due("1 lot", x.lot(0, 0), UNKNOWN);
        due("1 fault", x.fault(), NONE);
        due("1 best", x.best(0), 0);
        due("1 best", x.best(1), 0);
        due("1 best", x.best(2), OUTSIDE);
        due("1 meetings", x.meetings(1), 0);
        due("1 wentFor", x.wentFor(0, 1), 0);
        due("1 goBack", x.goBack(0), NOT);
        due("1 drift", x.drift(3), 0);
        due("1 told(4)", x.told(4), 3);
        due("1 seed", x.seed(7), 0);
    }

    private static void feed() {
        ClothPrices x = new ClothPrices();
        due("2 n 0", x.feed(0, 1), OUTSIDE);
        due("2 n 9", x.feed(9, 1), OUTSIDE);
        due("2 n -1", x.feed(-1, 1), OUTSIDE);
        due("2 one byte, the bits above it left out", x.feed(1, 0x7878_7800L | 'c'), 1);
        due("2 price", x.price(), 100);
        due("2 two bytes, the highest first", x.feed(2, 'x' << 8 | 'd'), 3);
        due("2 price", x.price(), 220);
        for (int k = 0; k < 62; k++) {
            x.feed(8, -1L);
        }
        due("2 bytes", x.told(3), 499);
        due("2 two too many", x.feed(2, 0), FULL);
        due("2 OUTSIDE ahead of FULL", x.feed(9, 0), OUTSIDE);
        due("2 bytes", x.told(3), 499);
        due("2 the last byte", x.feed(1, 0), 500);
        due("2 no more", x.feed(1, 0), FULL);
    }

    private static void market() {
        ClothPrices x = Check.market(FAIR);
        due("3 bytes", x.told(3), 0);
        x.hold(0, 2);
        x.hold(2, 4);
        Check.press(x, "xxxx", 0, 2, 0, 0, NONE);
        x.beat(2);
        x.seen(0, 1, 1, false);
        x.write(1, 0, 0, 9);
        x.keep(0);
        Check.feed(x, "seller 5 1;buyer");
        due("3 a fault", x.market(), -11);
        due("3 the text is empty", x.told(3), 0);
        due("3 all is as it was", x.told(0), 2);
        due("3 all is as it was", x.told(4), 2);
        due("3 all is as it was", x.told(8), 1);
        due("3 all is as it was", x.told(9), 1);
        due("3 all is as it was", x.bound(0, 0, 0), 40);
        due("3 all is as it was", x.person(2, 2), 17);
        due("3 all is as it was", x.goBack(0), 1);
        x.seed(77);
        Check.feed(x, FAIR);
        due("3 anew", x.market(), 6);
        due("3 BEATS", x.told(4), 0);
        due("3 BOOK", x.told(8), 0);
        due("3 SEEN", x.told(9), 0);
        due("3 bound", x.bound(0, 0, 0), NONE);
        due("3 held", x.person(2, 2), 0);
        due("3 IMAGES", x.goBack(0), NOT);
        due("3 the seed stays", x.seed(0), 77);
        due("3 of an empty text", x.market(), 0);
        due("3 N", x.told(5), 12);
        due("3 C", x.told(6), 2);
        Check.feed(x, "   ");
        due("3 of blanks", x.market(), 0);
        Check.feed(x, "seller0 1;buyer 2 0 7;");
        due("3 sold", x.market(), 2);
        x.hold(0, 1);
        Check.feed(x, " cost0;  seller0001 2 ;seller 999 1 ; buyer1 9999 0 ,999; broker 2 50;binds 99 ; ");
        due("3 blanks", x.market(), 4);
        due("3 N", x.told(5), 99);
        due("3 C", x.told(6), 0);
        due("3 PURSE", x.person(2, 3), 9999);
    }

    private static void fault(String text, int number, int at) {
        ClothPrices x = new ClothPrices();
        Check.feed(x, text);
        due("3 market of " + text, x.market(), -10 - number);
        due("4 fault of " + text, x.fault(), at);
    }

    private static void faults() {
        ClothPrices x = new ClothPrices();
        due("4 untold", x.fault(), NONE);
        Check.feed(x, "x");
        x.market();
        due("4 at 0", x.fault(), 0);
        x.market();
        due("4 the latest", x.fault(), NONE);
        Check.feed(x, "cost 5;binds 7;");
        due("3 a longer text", x.market(), 0);
        Check.feed(x, "cost 5");
        due("3 nothing of it is left", x.market(), -11);
        due("4 at the end", x.fault(), 6);
        String six = "seller 1 1;".repeat(6);
        fault(";", 1, 0);
        fault("  5;", 1, 2);
        fault("Seller 1 1;", 1, 0);
        fault("seller 1 1;;", 1, 11);
        fault("sellers 1 1;", 1, 0);
        fault("xeller 1 1;", 1, 0);
        fault("sellex 1 1;", 1, 0);
        fault("xuyer", 1, 0);
        fault("xroker 1 1;", 1, 0);
        fault("xinds 1;", 1, 0);
        fault("xost 1;", 1, 0);
        fault("sel ler 1 1;", 1, 0);
        fault("seller", 1, 6);
        fault("seller  ", 1, 8);
        fault("seller 1", 1, 8);
        fault("seller 1 1", 1, 10);
        fault("seller 1;", 1, 8);
        fault("seller 11;", 1, 9);
        fault("seller 1 1 1;", 1, 11);
        fault("seller 1 1 12345;", 1, 11);
        fault("seller 1 1,", 1, 10);
        fault("seller 1 x1;", 1, 9);
        fault("seller 1 \u00e9;", 1, 9);
        fault("seller -1 1;", 1, 7);
        fault("seller 1000 1;", 2, 7);
        fault("seller 00001 1;", 2, 7);
        fault("seller 99999999999999999999 1;", 2, 7);
        fault("seller 999 0;", 2, 11);
        fault("seller 999 3", 2, 11);
        fault("buyer 1 5 5;", 1, 10);
        fault("buyer 1 5 55555;", 1, 10);
        fault("buyer 1 5  ;", 1, 11);
        fault("buyer 1 5", 1, 9);
        fault("seller 1 1;buyer 1 5;", 1, 20);
        fault("seller 1 1;buyer 1 5,1;", 1, 20);
        fault("seller 1 1;buyer 1 5 1 1;", 1, 23);
        fault("seller 1 1;buyer 1 5 1,1;", 1, 22);
        fault("seller 1 1;buyer 1 5 1,;", 1, 22);
        fault("seller 1 1;seller 1 1;buyer 1 5 1;", 1, 33);
        fault("seller 1 1;seller 1 1;buyer 1 5 1,;", 1, 34);
        fault("seller 1 1;seller 1 1;buyer 1 5 1 1;", 1, 34);
        fault("seller 1 1;buyer 3 5 1;", 2, 17);
        fault("seller 1 1;buyer 0 5 1;", 2, 17);
        fault("seller 1 1;buyer 1 10000 1;", 2, 19);
        fault("seller 1 1;buyer 1 5 1000;", 2, 21);
        fault("broker 0 1;", 2, 7);
        fault("broker 3 1;", 2, 7);
        fault("broker 2 51;", 2, 9);
        fault("binds 0;", 2, 6);
        fault("binds 100;", 2, 6);
        fault("cost 100;", 2, 5);
        fault("cost 1;binds 2;cost 1;", 3, 15);
        fault("binds 1;binds", 3, 8);
        fault(six + "seller x", 3, 66);
        fault("seller 1 1;" + "buyer 1 1 1;".repeat(6) + "buyer", 3, 83);
        fault("broker 1 1;broker 1 1;broker", 3, 22);
        fault("seller 1 1;buyer 1 1 1;seller", 4, 23);
        fault("broker 1 1;seller 1 1;", 4, 11);
        fault("broker 1 1;buyer 1 1;", 4, 11);
        fault(six + "broker 1 1;seller", 3, 77);
        fault("seller 1 1;" + "buyer 1 1 1;".repeat(6) + "broker 1 1;buyer", 3, 94);
    }

    private static void told() {
        ClothPrices x = Check.market(FAIR + "    ");
        due("5 SELLERS", x.told(0), 2);
        due("5 BUYERS", x.told(1), 2);
        due("5 BROKERS", x.told(2), 2);
        due("5 N", x.told(5), 5);
        due("5 C", x.told(6), 3);
        due("5 SOLD", x.told(7), 0);
        Check.feed(x, "xyz");
        due("5 bytes", x.told(3), 3);
        x.write(0, 0, 0, 1);
        x.write(0, 0, 0, 1);
        x.seen(1, 0, 0, true);
        due("5 BOOK", x.told(8), 2);
        due("5 SEEN", x.told(9), 1);
        x.beat(7);
        due("5 BEATS", x.told(4), 7);
        due("5 -1", x.told(-1), OUTSIDE);
        due("5 10", x.told(10), OUTSIDE);
        due("5 far", x.told(Integer.MIN_VALUE), OUTSIDE);
    }

    private static void person() {
        ClothPrices x = Check.market("seller 40 1;buyer 2 90 60;broker 1 10;");
        due("6 hands", x.person(0, 0), 1);
        due("6 hands", x.person(1, 0), 2);
        due("6 RESERVE", x.person(0, 3), 40);
        due("6 PURSE", x.person(1, 3), 90);
        due("6 fee", x.person(2, 3), 10);
        x.hold(1, 0);
        x.hold(2, 1);
        due("6 free", x.person(0, 1), 0);
        due("6 free", x.person(1, 1), 0);
        due("6 held", x.person(1, 2), 5);
        due("6 held", x.person(2, 2), 2);
        due("6 gained", x.person(0, 4), 0);
        due("6 what", x.person(0, 5), OUTSIDE);
        due("6 what", x.person(0, -1), OUTSIDE);
        due("6 who", x.person(3, 0), UNKNOWN);
        due("6 who ahead of what", x.person(-1, 9), UNKNOWN);
        due("6 who", x.person(Integer.MAX_VALUE, 0), UNKNOWN);
    }

    private static void worthAndBound() {
        ClothPrices x = Check.market(FAIR);
        due("7 worth", x.worth(0, 0), 60);
        due("7 worth", x.worth(0, 1), 30);
        due("7 worth", x.worth(1, 1), 45);
        due("7 buyer", x.worth(2, 0), UNKNOWN);
        due("7 buyer", x.worth(-1, 0), UNKNOWN);
        due("7 lot", x.worth(0, 2), UNKNOWN);
        due("7 lot", x.worth(0, -1), UNKNOWN);
        due("8 unbound", x.bound(0, 0, 0), NONE);
        due("8 unbound", x.bound(3, 1, 1), NONE);
        x.beat(3);
        x.hold(0, 2);
        Check.press(x, "cc", 0, 2, 0, 0, NONE);
        due("8 bound", x.bound(0, 0, 0), 200);
        due("8 till", x.bound(0, 0, 1), 8);
        x.beat(4);
        due("8 bound", x.bound(0, 0, 0), 200);
        x.beat(1);
        due("8 over", x.bound(0, 0, 0), NONE);
        due("8 over", x.bound(0, 0, 1), NONE);
        due("8 another's lot", x.bound(0, 1, 0), UNKNOWN);
        due("8 a broker", x.bound(4, 0, 0), UNKNOWN);
        due("8 nobody", x.bound(6, 0, 0), UNKNOWN);
        due("8 nobody", x.bound(-1, 0, 0), UNKNOWN);
        due("8 no lot", x.bound(2, 2, 0), UNKNOWN);
        due("8 no lot", x.bound(2, -1, 7), UNKNOWN);
        due("8 what", x.bound(2, 0, 2), OUTSIDE);
        due("8 what", x.bound(2, 0, -1), OUTSIDE);
    }

    private static void lot() {
        ClothPrices x = Check.market(FAIR);
        due("9 unsold", x.lot(1, 0), NONE);
        due("9 unsold", x.lot(1, 1), NONE);
        x.hold(1, 3);
        Check.press(x, "xxx", 3, 1, 1, 0, NONE);
        Check.press(x, "xxi", 1, 3, 1, 0, NONE);
        due("9 to whom", x.lot(1, 0), 1);
        due("9 for how much", x.lot(1, 1), 21);
        due("9 the other one", x.lot(0, 0), NONE);
        due("9 the SET", x.told(7), 2);
        due("9 no lot", x.lot(2, 0), UNKNOWN);
        due("9 no lot", x.lot(-1, 5), UNKNOWN);
        due("9 what", x.lot(0, 2), OUTSIDE);
        due("9 what", x.lot(0, -1), OUTSIDE);
    }

    private static void hold() {
        ClothPrices x = Check.market("seller 1 1;seller 1 2;buyer 1 1 1,1;buyer 2 1 1,1;broker 2 1;broker 1 1;");
        due("10 SELLERS", x.hold(0, 1), NOT);
        due("10 BUYERS", x.hold(3, 2), NOT);
        due("10 BROKERS", x.hold(4, 5), NOT);
        due("10 one twice", x.hold(2, 2), UNKNOWN);
        due("10 nobody", x.hold(6, 2), UNKNOWN);
        due("10 nobody", x.hold(2, -1), UNKNOWN);
        due("10", x.hold(0, 2), 1);
        due("10 already", x.hold(2, 0), NOT);
        due("10 no free hand", x.hold(0, 3), NOT);
        due("10 no free hand", x.hold(4, 2), NOT);
        due("10", x.hold(3, 1), 1);
        due("10 already, hands are free", x.hold(1, 3), NOT);
        due("10", x.hold(4, 3), 1);
        due("10", x.hold(5, 1), 1);
        due("10 held", x.person(1, 2), 8 + 32);
        due("10 held", x.person(3, 2), 2 + 16);
    }

    private static void loose() {
        ClothPrices x = Check.market(FAIR);
        due("11 they do not", x.loose(0, 2), NOT);
        x.hold(0, 2);
        x.hold(0, 3);
        due("11 one twice", x.loose(0, 0), UNKNOWN);
        due("11 nobody", x.loose(0, 6), UNKNOWN);
        due("11 nobody", x.loose(-1, 0), UNKNOWN);
        due("11", x.loose(2, 0), 1);
        due("11 no more", x.loose(0, 2), NOT);
        due("11 the other hand", x.person(0, 2), 8);
        due("11 free", x.person(2, 1), 2);
        due("11 again", x.hold(2, 0), 1);
    }

    private static void press() {
        ClothPrices x = Check.market(FAIR);
        x.hold(0, 2);
        x.hold(2, 4);
        due("12 not held", Check.press(x, "x", 1, 2, 1, 0, NONE), NOT);
        due("12 the text is empty", x.told(3), 0);
        due("12 not the seller's own", Check.press(x, "x", 0, 2, 1, 0, NONE), NOT);
        due("12 not q's own", Check.press(x, "x", 2, 0, 1, 0, NONE), NOT);
        due("12 a BUYER to a BROKER: any lot", Check.press(x, "x", 2, 4, 1, 0, NONE), 10);
        due("12 bound", x.bound(2, 1, 0), 10);
        due("12 bound till", x.bound(2, 1, 1), 5);
        due("12 again", Check.press(x, "x", 2, 4, 1, 0, NONE), NOT);
        due("12 void, though bound", Check.press(x, "cccccccccxxxxxxx", 2, 4, 1, 1, NONE), 970);
        due("12 as it was", x.bound(2, 1, 0), 10);
        due("12 no press", Check.press(x, "", 2, 0, 0, 0, NONE), NOT);
        due("12 no press", Check.press(x, "xih", 2, 0, 0, 1, NONE), NOT);
        due("12 double, too much", Check.press(x, "ccccc", 0, 2, 0, 2, NONE), NOT);
        due("12 double, the greatest", Check.press(x, "ccccxxxxxxxxxiiiiiii", 0, 2, 0, 2, NONE), 994);
        due("12 bound to double", x.bound(0, 0, 0), 994);
        x.beat(5);
        due("12 over", Check.press(x, "c", 0, 2, 0, 0, NONE), 100);
        due("12 till", x.bound(0, 0, 1), 10);
    }

    private static void pressForAnother() {
        ClothPrices x = Check.market(FAIR);
        x.hold(4, 0);
        x.hold(4, 3);
        x.hold(0, 2);
        due("12 a BROKER for itself", Check.press(x, "x", 4, 0, 0, 0, NONE), NOT);
        due("12 a SELLER for another", Check.press(x, "x", 0, 2, 0, 0, 1), NOT);
        due("12 a BUYER for another", Check.press(x, "x", 2, 0, 0, 0, 3), NOT);
        due("12 f not held", Check.press(x, "x", 4, 0, 0, 0, 2), NOT);
        due("12 not q's own", Check.press(x, "x", 4, 0, 1, 0, 3), NOT);
        due("12 not f's own", Check.press(x, "x", 4, 3, 1, 0, 0), NOT);
        due("12 void for a BUYER", Check.press(x, "x", 4, 0, 0, 1, 3), 10);
        due("12 nobody bound", x.bound(3, 0, 0), NONE);
        due("12 for a BUYER", Check.press(x, "xx", 4, 0, 0, 0, 3), 20);
        due("12 bound", x.bound(3, 0, 0), 20);
        due("12 again", Check.press(x, "xxx", 4, 0, 0, 0, 3), NOT);
        due("12 for a SELLER", Check.press(x, "xxx", 4, 3, 0, 2, 0), 60);
        due("12 bound", x.bound(0, 0, 0), 60);
        x.loose(4, 3);
        x.hold(4, 1);
        x.beat(5);
        due("12 for a SELLER to a SELLER", Check.press(x, "xxx", 4, 0, 1, 0, 1), 30);
        x.loose(4, 0);
        x.loose(4, 1);
        x.hold(4, 2);
        x.hold(4, 3);
        due("12 for a BUYER to a BUYER", Check.press(x, "x", 4, 2, 0, 0, 3), 10);
        due("12 of any lot", Check.press(x, "x", 4, 2, 1, 0, 3), 10);
    }

    private static void pressRefused() {
        ClothPrices x = Check.market(FAIR);
        x.hold(0, 2);
        Check.feed(x, "x");
        due("12 one twice", x.press(0, 0, 0, 0, NONE), UNKNOWN);
        due("12 nobody", x.press(6, 0, 0, 0, NONE), UNKNOWN);
        due("12 nobody", x.press(0, -1, 0, 0, NONE), UNKNOWN);
        due("12 no lot", x.press(0, 2, 2, 0, NONE), UNKNOWN);
        due("12 no lot", x.press(0, 2, -1, 0, NONE), UNKNOWN);
        due("12 for p", x.press(0, 2, 0, 0, 0), UNKNOWN);
        due("12 for q", x.press(0, 2, 0, 0, 2), UNKNOWN);
        due("12 for a BROKER", x.press(0, 2, 0, 0, 4), UNKNOWN);
        due("12 for nobody", x.press(0, 2, 0, 0, 6), UNKNOWN);
        due("12 for nobody", x.press(0, 2, 0, 0, -2), UNKNOWN);
        due("12 UNKNOWN ahead of OUTSIDE", x.press(0, 2, 0, 3, 4), UNKNOWN);
        due("12 KIND", x.press(0, 2, 0, 3, NONE), OUTSIDE);
        due("12 KIND", x.press(0, 2, 0, -1, NONE), OUTSIDE);
        due("12 OUTSIDE ahead of NOT", x.press(0, 3, 0, 3, NONE), OUTSIDE);
        due("12 the text stays", x.told(3), 1);
        due("12 NOT", x.press(0, 3, 0, 0, NONE), NOT);
        due("12 the text is empty", x.told(3), 0);
        due("12 nobody is bound", x.bound(0, 0, 0), NONE);
    }

    private static void purse() {
        ClothPrices x = Check.market(FAIR);
        x.hold(2, 0);
        x.hold(2, 4);
        due("12 beyond the purse", Check.press(x, "xxxxxxxxxi", 2, 0, 0, 0, NONE), NOT);
        due("12 void: no purse", Check.press(x, "xxxxxxxxxi", 2, 0, 0, 1, NONE), 91);
        due("12 half of it", Check.press(x, "xxxx", 2, 4, 1, 0, NONE), 40);
        due("12 beyond what is left", Check.press(x, "xxxxxi", 2, 0, 0, 0, NONE), NOT);
        due("12 what is left", Check.press(x, "xxxxx", 2, 0, 0, 0, NONE), 50);
        due("12 sold for less", Check.press(x, "xx", 0, 2, 0, 0, NONE), 20);
        due("6 spent", x.person(2, 4), 20);
        x.beat(5);
        due("12 less what it spent", Check.press(x, "xxxxxxxi", 2, 4, 1, 0, NONE), NOT);
        due("12 less what it spent", Check.press(x, "xxxxxxx", 2, 4, 1, 0, NONE), 70);
    }

    private static void sales() {
        ClothPrices x = Check.market("seller 1 2;seller 1 2;buyer 2 999 9,9;buyer 2 999 9,9;buyer 2 999 9,9;"
            + "broker 2 33;broker 2 50;");
        x.hold(5, 2);
        x.hold(5, 3);
        x.hold(6, 4);
        x.hold(6, 0);
        due("12 less than is asked", Check.press(x, "xi", 2, 5, 0, 0, NONE), 11);
        due("12 a like one", Check.press(x, "xx", 3, 5, 0, 0, NONE), 20);
        due("12 a like one", Check.press(x, "xx", 4, 6, 0, 0, NONE), 20);
        due("12 too dear", Check.press(x, "xxi", 0, 6, 0, 1, NONE), 21);
        due("9 unsold", x.lot(0, 0), NONE);
        due("12 sold", Check.press(x, "xi", 0, 6, 0, 0, NONE), 11);
        due("9 to the least of the greatest", x.lot(0, 0), 1);
        due("9 for what is asked", x.lot(0, 1), 11);
        due("8 over", x.bound(2, 0, 0), NONE);
        due("8 over", x.bound(0, 0, 0), NONE);
        due("8 over", x.bound(4, 0, 1), NONE);
        due("6 no broker HOLDS both", x.person(0, 4), 11);
        due("6 spent", x.person(3, 4), 11);
        due("6 nothing", x.person(5, 4), 0);
        due("12 no more", Check.press(x, "xi", 2, 5, 0, 0, NONE), NOT);
        due("12 no more, void", Check.press(x, "xi", 0, 6, 0, 1, NONE), NOT);
        x.loose(6, 0);
        x.loose(5, 2);
        x.hold(6, 1);
        x.hold(5, 1);
        x.loose(5, 3);
        x.hold(5, 4);
        due("12 a SELLER first", Check.press(x, "xxi", 1, 5, 1, 0, NONE), 21);
        due("12 less", Check.press(x, "xx", 4, 5, 1, 1, NONE), 20);
        due("9 unsold", x.lot(1, 0), NONE);
        due("12 sold", Check.press(x, "xxx", 4, 5, 1, 0, NONE), 30);
        due("9 for what is asked", x.lot(1, 1), 21);
        due("6 the least BROKER that HOLDS both", x.person(5, 4), 6);
        due("6 the other one", x.person(6, 4), 0);
        due("6 less the fee", x.person(1, 4), 15);
        due("6 spent", x.person(4, 4), 21);
        due("5 SOLD", x.told(7), 3);
    }

    private static void pressed(String text, int price) {
        ClothPrices x = new ClothPrices();
        Check.feed(x, text);
        due("13 price of " + text, x.price(), price);
        due("13 it stays", x.told(3), text.length());
    }

    private static void price() {
        pressed("", NONE);
        pressed("c", 100);
        pressed("x", 10);
        pressed("i", 1);
        pressed("d", NONE);
        pressed("hdi", 1);
        pressed("xidh", 11);
        pressed("ih", NONE);
        pressed("ihh", NONE);
        pressed("cccccccccx", 910);
        pressed("ccccccccccx", NONE);
        pressed("ccccccccccccccccccch", 950);
        pressed("ccccccccccccccccccdh", NONE);
        pressed("cddddhhhhhi", 51);
        pressed("cddddhhhhhdi", 101);
        pressed("iiiiiiiiiiiiiiiiiiii", 20);
        pressed("iiiiiiiiiiiiiiiiiiiii", NONE);
        pressed("cddddddddddddddddddd", NONE);
        pressed("x i", NONE);
        pressed("C", NONE);
        pressed("xz", NONE);
        pressed("cccccdi", NONE);
        pressed("xxxxxdddddih", NONE);
    }

    private static void twitches() {
        ClothPrices x = new ClothPrices();
        due("14", x.twitches(1), 1);
        due("14", x.twitches(10), 1);
        due("14", x.twitches(507), 12);
        due("14", x.twitches(999), 27);
        due("14 0", x.twitches(0), OUTSIDE);
        due("14 1000", x.twitches(1000), OUTSIDE);
        due("14 -1", x.twitches(-1), OUTSIDE);
    }

    private static void beat() {
        ClothPrices x = new ClothPrices();
        due("15", x.beat(1), 1);
        due("15", x.beat(99), 100);
        due("15 0", x.beat(0), OUTSIDE);
        due("15 100", x.beat(100), OUTSIDE);
        due("15 -1", x.beat(-1), OUTSIDE);
        due("15 as it was", x.told(4), 100);
    }

    private static void drift() {
        ClothPrices x = Check.market("binds 9;seller 10 1;buyer 1 999 80;");
        due("16 0", x.drift(0), OUTSIDE);
        due("16 61", x.drift(61), OUTSIDE);
        due("30 as it was", x.seed(0), 0);
        // by hand: 0 becomes 12345 (draw 0), 1406932606 (21468), 654583775 (9988)
        due("16", x.drift(1), 1);
        due("16 the seed", x.seed(0), 654583775);
        due("16 for RESERVE and a draw of 50", x.lot(0, 1), 10);
        due("16 BEATS", x.told(4), 1);
        due("16 no more", x.drift(60), 1);
        due("16 BEATS", x.told(4), 61);
        ClothPrices y = Check.market("binds 9;seller 960 1;seller 500 1;buyer 1 999 1,3;broker 2 20;");
        y.seed(1406932606);
        // 654583775: draw of 50 is 38; then 1449466924 (22117): 17; 229283573 (3498): lot 0; 1109335178 (16927): 27
        due("16 nothing", y.drift(1), 0);
        due("16 bound", y.bound(0, 0, 0), 998);
        due("16 bound", y.bound(1, 1, 0), 517);
        due("16 not below 1", y.bound(2, 0, 0), NONE);
        due("16 bound till", y.bound(1, 1, 1), 9);
        due("16 the seed", y.seed(0), 1109335178);
    }

    private static void bargain() {
        ClothPrices x = Check.market("cost 3;seller 40 1;seller 50 1;buyer 1 0 60,49;buyer 2 50 40,50;");
        due("17 one round", x.bargain(0, 0, 1), 60);
        due("17 two", x.bargain(0, 0, 2), 43);
        due("17 three", x.bargain(0, 0, 3), 57);
        due("17 nothing is left", x.bargain(0, 0, 40), 51);
        due("17 below", x.bargain(1, 0, 5), NONE);
        due("17 nothing to share", x.bargain(0, 1, 5), 40);
        due("17 nothing to share", x.bargain(1, 1, 1), 50);
        due("17 no seller", x.bargain(2, 0, 1), UNKNOWN);
        due("17 no buyer", x.bargain(0, 2, 1), UNKNOWN);
        due("17 UNKNOWN first", x.bargain(-1, 0, 0), UNKNOWN);
        due("17 0", x.bargain(0, 0, 0), OUTSIDE);
        due("17 41", x.bargain(0, 0, 41), OUTSIDE);
    }

    private static void best() {
        ClothPrices x = Check.market("seller 10 1;seller 10 1;seller 5 1;buyer 1 0 12,12,5;buyer 1 0 12,12,5;");
        due("18 GAIN", x.best(0), 4);
        due("18 LOTS", x.best(1), 2);
        due("18 the first", x.best(2), 0);
        due("18 the first", x.best(3), 1);
        due("18 nobody", x.best(4), NONE);
        due("18 no lot", x.best(5), OUTSIDE);
        due("18 -1", x.best(-1), OUTSIDE);
        due("18 far", x.best(Integer.MAX_VALUE), OUTSIDE);
        ClothPrices y = Check.market("seller 10 1;seller 10 1;buyer 1 0 20,10;buyer 1 0 20,9;");
        due("18 GAIN", y.best(0), 10);
        due("18 most LOTS", y.best(1), 2);
        due("18 most LOTS", y.best(2), 1);
        due("18 most LOTS", y.best(3), 0);
        ClothPrices z = Check.market("seller 10 1;buyer 1 0 9;");
        due("18 none", z.best(0), 0);
        due("18 none", z.best(1), 0);
        due("18 none", z.best(2), NONE);
    }

    private static void span() {
        ClothPrices x = Check.market("seller 10 1;seller 30 1;buyer 1 0 50,20;buyer 1 0 40,20;buyer 1 0 35,5;");
        due("19 the next one's worth", x.span(0, 0), 40);
        due("19 the greatest worth", x.span(0, 1), 50);
        due("19 unsold", x.span(1, 0), 30);
        due("19 unsold", x.span(1, 1), 30);
        due("19 no lot", x.span(2, 0), UNKNOWN);
        due("19 no lot", x.span(-1, 5), UNKNOWN);
        due("19 what", x.span(0, 2), OUTSIDE);
        due("19 what", x.span(0, -1), OUTSIDE);
    }

    private static void lie() {
        ClothPrices x = Check.market(FAIR);
        due("20 higher", x.lie(0, 0, 0, 49), 4);
        due("20 lowest", x.lie(0, 0, 0, 0), -20);
        due("20 the truth", x.lie(0, 0, 0, 40), 0);
        due("20 too high", x.lie(0, 0, 0, 61), -10);
        due("20 MOST", x.lie(2, 2, 0, 40), 20);
        due("20 LEAST", x.lie(1, 3, 0, 999), -25);
        due("20 a BROKER", x.lie(0, 4, 0, 5), UNKNOWN);
        due("20 another's lot", x.lie(0, 0, 1, 5), UNKNOWN);
        due("20 nobody", x.lie(0, 6, 0, 5), UNKNOWN);
        due("20 no lot", x.lie(9, 2, 2, 5), UNKNOWN);
        due("20 rule", x.lie(3, 2, 0, 5), OUTSIDE);
        due("20 rule", x.lie(-1, 2, 0, 5), OUTSIDE);
        due("20 v", x.lie(0, 2, 0, -1), OUTSIDE);
        due("20 v", x.lie(0, 2, 0, 1000), OUTSIDE);
        due("18 as told", x.best(0), 40);
    }

    private static void bestLie() {
        ClothPrices x = Check.market(FAIR);
        due("21 v", x.bestLie(0, 0, 0, 0), 60);
        due("21 worth", x.bestLie(0, 0, 0, 1), 10);
        due("21 HONEST", x.bestLie(1, 2, 0, 1), 0);
        due("21 HONEST", x.bestLie(2, 0, 0, 1), 0);
        due("21 worth", x.bestLie(2, 2, 0, 1), 20);
        due("21 a BROKER", x.bestLie(0, 5, 0, 0), UNKNOWN);
        due("21 another's lot", x.bestLie(0, 1, 0, 0), UNKNOWN);
        due("21 no lot", x.bestLie(0, 2, -1, 9), UNKNOWN);
        due("21 rule", x.bestLie(3, 2, 0, 0), OUTSIDE);
        due("21 what", x.bestLie(0, 2, 0, 2), OUTSIDE);
        due("21 what", x.bestLie(0, 2, 0, -1), OUTSIDE);
        ClothPrices y = Check.market("seller 7 1;");
        due("21 nobody buys: the least", y.bestLie(1, 0, 0, 0), 0);
        due("21 nobody buys", y.bestLie(1, 0, 0, 1), 0);
        ClothPrices z = Check.market("seller 0 1;buyer 1 9 999;");
        due("21 as high as can be", z.bestLie(0, 0, 0, 0), 999);
        due("21 as high as can be", z.bestLie(0, 0, 0, 1), 500);
        due("21 as low as can be", z.bestLie(2, 1, 0, 0), 0);
        due("21 as low as can be", z.bestLie(2, 1, 0, 1), 999);
    }

    private static void seen() {
        ClothPrices x = Check.market(FAIR);
        due("22 no lot", x.seen(2, 0, 0, false), UNKNOWN);
        due("22 no lot", x.seen(-1, 99, 0, false), UNKNOWN);
        due("22 w", x.seen(0, 61, 0, false), OUTSIDE);
        due("22 w", x.seen(0, -1, 0, false), OUTSIDE);
        due("22 e", x.seen(0, 0, 10, false), OUTSIDE);
        due("22 e", x.seen(0, 0, -1, false), OUTSIDE);
        for (int k = 1; k <= 10; k++) {
            due("22", x.seen(k % 2, 60, 9, true), k);
        }
        due("22 no more", x.seen(0, 0, 0, false), FULL);
        due("22 OUTSIDE ahead of FULL", x.seen(0, 0, 10, false), OUTSIDE);
        due("23", x.forget(), 10);
        due("23 nothing", x.told(9), 0);
        due("23 nothing", x.forget(), 0);
        due("22 again", x.seen(0, 0, 0, false), 1);
    }

    private static void fits() {
        ClothPrices x = Check.market(FAIR);
        due("24 nothing seen", x.fits(0, 0), 999);
        due("24 nothing seen", x.fits(0, 1), 1);
        due("24 nothing seen", x.fits(0, 2), 999);
        x.seen(0, 28, 2, false);
        due("24", x.fits(0, 0), 4);
        due("24", x.fits(0, 1), 899);
        due("24 another lot", x.fits(1, 0), 999);
        x.seen(0, 36, 9, false);
        due("24 one", x.fits(0, 0), 1);
        due("24 the least", x.fits(0, 1), 999);
        due("24 the greatest", x.fits(0, 2), 999);
        x.seen(1, 1, 0, true);
        due("24 double", x.fits(1, 0), 3);
        due("24 double", x.fits(1, 1), 2);
        due("24 double", x.fits(1, 2), 200);
        x.seen(1, 1, 1, false);
        due("24 all that was seen", x.fits(1, 2), 200);
        x.seen(1, 1, 0, false);
        due("24 none", x.fits(1, 0), 0);
        due("24 none", x.fits(1, 1), NONE);
        due("24 none", x.fits(1, 2), NONE);
        due("24 no lot", x.fits(2, 0), UNKNOWN);
        due("24 no lot", x.fits(-1, 3), UNKNOWN);
        due("24 what", x.fits(0, 3), OUTSIDE);
        due("24 what", x.fits(0, -1), OUTSIDE);
    }

    private static void wentFor() {
        ClothPrices x = Check.market("seller 0 1;seller 0 1;seller 0 1;seller 0 1;");
        due("25 s", x.wentFor(-1, 0), OUTSIDE);
        due("25 s", x.wentFor(10000, 0), OUTSIDE);
        due("25 what", x.wentFor(0, 2), OUTSIDE);
        due("25 what", x.wentFor(0, -1), OUTSIDE);
        due("25 nothing spent", x.wentFor(0, 0), 1);
        due("25 nothing spent", x.wentFor(0, 1), 0);
        due("25 one", x.wentFor(1, 0), 4);
        due("25 two", x.wentFor(2, 0), 10);
        due("25 none in all", x.wentFor(2, 1), 0);
        due("25 far", x.wentFor(9999, 1), NONE);
        due("25 far", x.wentFor(9999, 0), 0);
        due("25 all", x.wentFor(3996, 1), 15);
        due("25 three at least", x.wentFor(2997, 0), 5);
        x.seen(2, 27, 0, false);
        due("25 lot 2 for 999", x.wentFor(1000, 0), 7);
        due("25 lot 2 for 999", x.wentFor(1998, 1), 0);
        x.forget();
        for (int l = 0; l < 4; l++) {
            x.seen(l, 1, 0, false);
        }
        due("25 1, 10, 100 each", x.wentFor(112, 0), 1);
        due("25 1, 10, 100 each", x.wentFor(112, 1), 15);
        due("25 1, 10, 100 each", x.wentFor(111, 0), 4);
        due("25 1, 10, 100 each", x.wentFor(5, 1), NONE);
        Check.feed(x, "seller 0 1;".repeat(6));
        x.market();
        due("25 another market", x.wentFor(5994, 1), 63);
        due("25 another market", x.wentFor(5000, 0), 1);
        due("25 another market", x.wentFor(4995, 0), 7);
        oneLot();
        Check.feed(x, "seller 0 1;".repeat(6));
        x.market();
        x.seen(0, 13, 0, false);
        x.seen(1, 1, 0, false);
        for (int l = 2; l < 6; l++) {
            x.seen(l, 60, 0, false);
        }
        due("25 319 and 1", x.wentFor(320, 0), 1);
        due("25 319 and 1", x.wentFor(320, 1), 3);
        greatSums();
    }

    /** A new object for each hundred sums: none is asked more than the 512 times that are promised. */
    private static void oneLot() {
        for (int from = 0; from <= 1000; from += 100) {
            ClothPrices x = Check.market("seller 0 1;");
            for (int s = from; s < from + 100; s++) {
                due("25 one lot for " + s, x.wentFor(s, 0), s <= 999 ? 1 : 0);
                due("25 one lot for " + s, x.wentFor(s, 1), s == 0 ? 0 : s <= 999 ? 1 : NONE);
            }
        }
    }

    /** Three lots near the greatest prices, at either half of six. */
    private static void greatSums() {
        int[] prices = {899, 989, 998};
        boolean[] reached = new boolean[3000];
        for (int k = 0; k < 27; k++) {
            reached[prices[k / 9] + prices[k / 3 % 3] + prices[k % 3]] = true;
        }
        for (int k = 0; k < 4; k++) {
            int first = k % 2 * 3;
            int from = k < 2 ? 2500 : 2750;
            ClothPrices x = Check.market("seller 0 1;".repeat(6));
            for (int l = 0; l < 6; l++) {
                x.seen(l, l < first || l > first + 2 ? 60 : 26, 0, false);
            }
            for (int s = from; s < from + 250; s++) {
                due("25 three lots for " + s, x.wentFor(s, 1), reached[s] ? 7 << first : NONE);
            }
        }
    }

    private static void meetings() {
        ClothPrices x = Check.market("seller 5 1;seller 5 2;buyer 1 0 5,4;buyer 1 0 9,5;buyer 2 0 9,9;broker 1 1;");
        due("26 by hands", x.meetings(0), 3);
        due("26 by order", x.meetings(1), 3);
        due("26 what", x.meetings(2), OUTSIDE);
        due("26 what", x.meetings(-1), OUTSIDE);
        ClothPrices y = Check.market("seller 5 1;buyer 1 0 4;");
        due("26 none", y.meetings(0), 0);
        due("26 none", y.meetings(1), 0);
        String buyer = "buyer 1 0 1,1,1,1,1,1;";
        ClothPrices z = Check.market("seller 1 1;".repeat(6) + buyer.repeat(6));
        due("26 by hands", z.meetings(0), 6);
        due("26 by order", z.meetings(1), 8);
    }

    private static void write() {
        ClothPrices x = Check.market(FAIR);
        due("27 a BROKER", x.write(0, 4, 0, 5), UNKNOWN);
        due("27 another's lot", x.write(0, 0, 1, 5), UNKNOWN);
        due("27 nobody", x.write(0, 6, 0, 5), UNKNOWN);
        due("27 no lot", x.write(-1, 2, 2, 5), UNKNOWN);
        due("27 BEAT", x.write(-1, 2, 0, 5), OUTSIDE);
        due("27 BEAT", x.write(10000, 2, 0, 5), OUTSIDE);
        due("27 price", x.write(0, 2, 0, 0), OUTSIDE);
        due("27 price", x.write(0, 2, 0, 1000), OUTSIDE);
        for (int k = 1; k <= 30; k++) {
            due("27", x.write(9999, 2, 1, 999), k);
        }
        due("27 no more", x.write(0, 2, 0, 5), FULL);
        due("27 OUTSIDE ahead of FULL", x.write(0, 2, 0, 0), OUTSIDE);
        due("28", x.tear(), 30);
        due("28 empty", x.told(8), 0);
        due("28 empty", x.tear(), 0);
        due("27 again", x.write(0, 2, 0, 5), 1);
    }

    private static void judge() {
        ClothPrices x = Check.market(FAIR);
        due("29 empty", x.judge(), NONE);
        x.write(7, 0, 0, 999);
        x.write(7, 2, 0, 60);
        x.write(11, 2, 1, 30);
        due("29 right", x.judge(), NONE);
        x.write(11, 3, 1, 151);
        due("29 beyond the purse", x.judge(), 3);
        x.tear();
        x.write(7, 2, 0, 60);
        x.write(11, 2, 1, 31);
        due("29 beyond what is left", x.judge(), 1);
        x.tear();
        x.write(7, 2, 0, 60);
        x.write(12, 2, 1, 90);
        x.write(12, 2, 0, 1);
        due("29 over at N", x.judge(), 2);
        x.tear();
        x.write(7, 0, 0, 60);
        x.write(11, 0, 0, 60);
        due("29 bound still", x.judge(), 1);
        x.tear();
        x.write(7, 0, 0, 60);
        x.write(12, 0, 0, 60);
        due("29 no more", x.judge(), NONE);
        x.write(11, 1, 1, 60);
        due("29 a lesser BEAT", x.judge(), 2);
        due("5 it stays", x.told(8), 3);
    }

    private static void seed() {
        ClothPrices x = new ClothPrices();
        due("30 at first", x.seed(2147483647), 0);
        due("30 below 0", x.seed(-1), OUTSIDE);
        due("30 the least int", x.seed(Integer.MIN_VALUE), OUTSIDE);
        due("30 what it was", x.seed(0), 2147483647);
        due("30", x.seed(3), 0);
    }

    private static void images() {
        ClothPrices x = Check.market(FAIR);
        due("31 no image", x.keep(2), UNKNOWN);
        due("31 no image", x.keep(-1), UNKNOWN);
        due("32 no image", x.goBack(2), UNKNOWN);
        due("32 no image", x.goBack(-1), UNKNOWN);
        due("32 not kept", x.goBack(1), NOT);
        x.hold(0, 2);
        x.hold(0, 4);
        x.hold(4, 2);
        Check.press(x, "xxx", 2, 0, 0, 0, NONE);
        x.beat(2);
        x.seed(99);
        due("31", x.keep(1), 1);
        Check.press(x, "xx", 0, 2, 0, 0, NONE);
        due("9 sold", x.lot(0, 1), 20);
        due("31", x.keep(0), 1);
        x.loose(0, 2);
        x.beat(9);
        x.seed(1);
        x.write(0, 0, 0, 1);
        x.seen(0, 1, 1, true);
        Check.feed(x, "xx");
        due("32", x.goBack(1), 1);
        due("32 hands", x.person(0, 2), 4 + 16);
        due("32 BEATS", x.told(4), 2);
        due("32 bound", x.bound(2, 0, 0), 30);
        due("32 bound till", x.bound(2, 0, 1), 5);
        due("32 SOLD", x.lot(0, 0), NONE);
        due("32 spent", x.person(2, 4), 0);
        due("32 gained", x.person(0, 4), 0);
        due("32 the seed", x.seed(5), 99);
        due("32 THE BOOK stays", x.told(8), 1);
        due("32 SEEN stays", x.told(9), 1);
        due("32 THE TEXT stays", x.told(3), 2);
        due("32 the other one", x.goBack(0), 1);
        due("32 SOLD", x.lot(0, 1), 20);
        due("32 gained", x.person(0, 4), 18);
        due("32 gained", x.person(4, 4), 2);
        due("32 spent", x.person(2, 4), 20);
        due("32 again", x.goBack(1), 1);
        due("32 the image stays as it was", x.seed(5), 99);
    }
}
