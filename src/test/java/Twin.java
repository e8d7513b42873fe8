import java.util.LinkedHashMap;
import java.util.Map;
import java.util.function.Consumer;
import java.util.function.ToIntFunction;

/** Two objects that go the same way, one of them with a refused call more: all that can be asked of them is the same. */
final class Twin {
    /** SELLERS 0, 1; BUYERS 2, 3; BROKERS 4, 5. */
    static final String FAIR = "binds 5;cost 3;seller 40 2;seller 25 2;buyer 2 90 60,30;"
        + "buyer 2 150 50,45;broker 2 10;broker 2 50;";

    private Twin() {
    }

    /** A market in which something of everything is: hands, sales, bindings, images, a book, a seed. */
    static void busy(ClothPrices x) {
        Check.feed(x, FAIR);
        x.market();
        x.hold(0, 2);
        x.hold(0, 4);
        x.hold(4, 2);
        x.hold(1, 3);
        Check.press(x, "xxxx", 2, 0, 0, 0, ClothPrices.NONE);
        Check.press(x, "xxx", 0, 2, 0, 0, ClothPrices.NONE);
        x.beat(2);
        Check.press(x, "xx", 3, 1, 1, 0, ClothPrices.NONE);
        Check.press(x, "x", 2, 4, 1, 0, ClothPrices.NONE);
        x.seen(0, 5, 1, false);
        x.seen(1, 4, 0, true);
        x.write(1, 0, 0, 9);
        x.write(3, 2, 1, 50);
        x.seed(77);
        x.keep(0);
        x.beat(1);
        Check.press(x, "xxx", 1, 3, 1, 0, ClothPrices.NONE);
    }

    static void busyWithText(ClothPrices x) {
        busy(x);
        Check.feed(x, "xxi");
    }

    static ClothPrices after(Consumer<ClothPrices> way) {
        ClothPrices x = new ClothPrices();
        way.accept(x);
        return x;
    }

    /** The call is refused as told, and changes nothing. */
    static void refused(String what, int refusal, Consumer<ClothPrices> way, ToIntFunction<ClothPrices> call) {
        ClothPrices x = after(way);
        Check.due(what, call.applyAsInt(x), refusal);
        ClothPrices y = after(way);
        Check.due(what + ": fault() then", x.fault(), y.fault());
        same(what, x, y);
    }

    /** A PRESS that is NOT takes THE TEXT, and changes nothing else. */
    static void pressRefused(String what, Consumer<ClothPrices> way, String text, ToIntFunction<ClothPrices> call) {
        ClothPrices x = after(way);
        Check.feed(x, text);
        Check.due(what, call.applyAsInt(x), ClothPrices.NOT);
        same(what, x, after(way));
    }

    /** Neither object is of use afterwards: the last questions change what is so. */
    static void same(String what, ClothPrices x, ClothPrices y) {
        Map<String, Integer> one = allOf(x);
        Map<String, Integer> other = allOf(y);
        Check.due(what + ": calls within the 512 that are promised", one.size() < 440 ? 1 : 0, 1);
        Check.due(what + ": as many answers", one.size(), other.size());
        for (Map.Entry<String, Integer> e : one.entrySet()) {
            Check.due(what + " changed something: " + e.getKey(), e.getValue(), other.getOrDefault(e.getKey(), 12345678));
        }
    }

    private static Map<String, Integer> allOf(ClothPrices x) {
        Map<String, Integer> all = new LinkedHashMap<>();
        questions(x, "", all);
        all.put("seed(0)", x.seed(0));
        for (int i = 0; i < 2; i++) {
            String image = "image " + i + " ";
            all.put(image, x.goBack(i));
            if (all.get(image) == 1) {
                questions(x, image, all);
                all.put(image + "seed(0)", x.seed(0));
            }
        }
        all.put("tear()", x.tear());
        all.put("forget()", x.forget());
        all.put("market()", x.market());
        all.put("fault()", x.fault());
        all.put("told(0) at the end", x.told(0));
        return all;
    }

    /** What can be asked without changing anything. */
    private static void questions(ClothPrices x, String head, Map<String, Integer> all) {
        for (int what = 0; what <= 9; what++) {
            all.put(head + "told " + what, x.told(what));
        }
        all.put(head + "price", x.price());
        all.put(head + "judge", x.judge());
        int sellers = x.told(0);
        int persons = sellers + x.told(1) + x.told(2);
        for (int p = 0; p < persons; p++) {
            for (int what = 0; what <= 4; what++) {
                all.put(head + "person " + p + " " + what, x.person(p, what));
            }
        }
        for (int l = 0; l < sellers; l++) {
            lotQuestions(x, head, l, all);
        }
        for (int what = 0; what < 2; what++) {
            all.put(head + "best " + what, x.best(what));
            all.put(head + "meetings " + what, x.meetings(what));
            all.put(head + "wentFor " + what, x.wentFor(30, what));
        }
    }

    private static void lotQuestions(ClothPrices x, String head, int l, Map<String, Integer> all) {
        for (int what = 0; what < 2; what++) {
            all.put(head + "lot " + l + " " + what, x.lot(l, what));
            all.put(head + "span " + l + " " + what, x.span(l, what));
            all.put(head + "bound " + l + " " + l + " " + what, x.bound(l, l, what));
            for (int b = 0; b < x.told(1); b++) {
                int p = x.told(0) + b;
                all.put(head + "bound " + p + " " + l + " " + what, x.bound(p, l, what));
            }
        }
        for (int b = 0; b < x.told(1); b++) {
            all.put(head + "worth " + b + " " + l, x.worth(b, l));
        }
        for (int what = 0; what < 3; what++) {
            all.put(head + "fits " + l + " " + what, x.fits(l, what));
        }
        all.put(head + "best " + (2 + l), x.best(2 + l));
    }
}
