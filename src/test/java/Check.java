/** What the tests share: feeding texts, and counting answers that are not as due. */
final class Check {
    private static int wrong = 0;
    private static int asked = 0;

    private Check() {
    }

    static void due(String call, long got, long want) {
        asked++;
        if (got != want) {
            wrong++;
            System.out.println(call + " answered " + got + ", due is " + want);
        }
    }

    /** Feeds a text, eight bytes at a time. */
    static void feed(ClothPrices x, String text) {
        for (int from = 0; from < text.length(); from += 8) {
            int n = Math.min(8, text.length() - from);
            long packed = 0;
            for (int k = 0; k < n; k++) {
                packed = packed << 8 | text.charAt(from + k) & 255;
            }
            x.feed(n, packed);
        }
    }

    static ClothPrices market(String text) {
        ClothPrices x = new ClothPrices();
        feed(x, text);
        if (x.market() < 0) {
            due("market of " + text, x.fault(), ClothPrices.NONE);
        }
        return x;
    }

    static int press(ClothPrices x, String text, int p, int q, int lot, int kind, int f) {
        feed(x, text);
        return x.press(p, q, lot, kind, f);
    }

    /** A PRESS for any number up to 2047, by its bits: twice, and one more where a bit is. */
    static String signs(int number) {
        StringBuilder text = new StringBuilder();
        for (int bit = 31 - Integer.numberOfLeadingZeros(number); bit >= 0; bit--) {
            text.append(text.length() > 0 ? "d" : "").append((number >> bit & 1) == 1 ? "i" : "");
        }
        return text.toString();
    }

    static void end() {
        System.out.println(asked + " answers, " + wrong + " not as due");
        if (wrong != 0) {
            System.exit(1);
        }
    }
}
