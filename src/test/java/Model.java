import java.util.ArrayList;
import java.util.HashSet;
import java.util.List;
import java.util.Set;

/**
 * The document once more, written to be read and not to be fast: every choice is tried.
 * RandomRunsTest asks it what each call of the class has to answer.
 */
final class Model {
    private static final int NONE = -1, UNKNOWN = -1000001, OUTSIDE = -1000002, NOT = -1000003, FULL = -1000004;

    private static final class Person {
        char sort;
        int hands;
        int limit;
        int[] worths = {};
    }

    private static final class Binding {
        final int p;
        final int lot;
        final int price;
        final int till;

        Binding(int p, int lot, int price, int till) {
            this.p = p;
            this.lot = lot;
            this.price = price;
            this.till = till;
        }
    }

    /** What an image keeps. */
    private static final class State {
        Set<Integer> pairs = new HashSet<>();
        int beats;
        List<Binding> bindings = new ArrayList<>();
        int[] soldTo = {NONE, NONE, NONE, NONE, NONE, NONE};
        int[] soldFor = {NONE, NONE, NONE, NONE, NONE, NONE};
        int[] money = new int[14];
        long seed;

        State copy() {
            State c = new State();
            c.pairs.addAll(pairs);
            c.beats = beats;
            c.bindings.addAll(bindings);
            c.soldTo = soldTo.clone();
            c.soldFor = soldFor.clone();
            c.money = money.clone();
            c.seed = seed;
            return c;
        }
    }

    /** A FAULT on its way out of the reading. */
    private static final class Fault extends RuntimeException {
        private static final long serialVersionUID = 1L;
        final int number;
        final int at;

        Fault(int number, int at) {
            this.number = number;
            this.at = at;
        }
    }

    /** A word, a NUMBER, or any other byte but a blank. */
    private static final class Token {
        final String text;
        final int at;

        Token(String text, int at) {
            this.text = text;
            this.at = at;
        }
    }

    private String text = "";
    private List<Person> persons = new ArrayList<>();
    private int binds = 12;
    private int cost = 2;
    private int faultAt = NONE;
    private State now = new State();
    private final State[] images = new State[2];
    private final List<int[]> seen = new ArrayList<>();
    private final List<int[]> book = new ArrayList<>();

    // ---- the market

    int feed(int n, long bytes) {
        if (n < 1 || n > 8) {
            return OUTSIDE;
        }
        StringBuilder more = new StringBuilder();
        for (int k = 0; k < n; k++) {
            more.insert(0, (char) (bytes & 255));
            bytes >>= 8;
        }
        return feed(more.toString());
    }

    int feed(String more) {
        if (text.length() + more.length() > 500) {
            return FULL;
        }
        text += more;
        return text.length();
    }

    private List<Token> tokens() {
        List<Token> all = new ArrayList<>();
        java.util.regex.Matcher m = java.util.regex.Pattern.compile("[a-z]+|[0-9]+|[^ ]", java.util.regex.Pattern.DOTALL)
            .matcher(text);
        while (m.find()) {
            all.add(new Token(m.group(), m.start()));
        }
        all.add(new Token("", text.length()));
        return all;
    }

    private static int number(Token t, int least, int most) {
        if (!t.text.matches("[0-9]+")) {
            throw new Fault(1, t.at);
        }
        if (t.text.length() > 4 || Integer.parseInt(t.text) < least || Integer.parseInt(t.text) > most) {
            throw new Fault(2, t.at);
        }
        return Integer.parseInt(t.text);
    }

    private static void sign(Token t, String sign) {
        if (!t.text.equals(sign)) {
            throw new Fault(1, t.at);
        }
    }

    private static int howMany(List<Person> all, char sort) {
        int count = 0;
        for (Person p : all) {
            count += p.sort == sort ? 1 : 0;
        }
        return count;
    }

    int market() {
        List<Token> all = tokens();
        List<Person> read = new ArrayList<>();
        int[] once = {NONE, NONE};
        try {
            int i = 0;
            while (all.get(i).at < text.length()) {
                i = clause(all, i, read, once);
            }
        } catch (Fault f) {
            text = "";
            faultAt = f.at;
            return -10 - f.number;
        }
        text = "";
        faultAt = NONE;
        persons = read;
        binds = once[0] == NONE ? 12 : once[0];
        cost = once[1] == NONE ? 2 : once[1];
        long seed = now.seed;
        now = new State();
        now.seed = seed;
        images[0] = null;
        images[1] = null;
        seen.clear();
        book.clear();
        return persons.size();
    }

    private static int clause(List<Token> all, int i, List<Person> read, int[] once) {
        Token word = all.get(i);
        Person p = new Person();
        int sellers = howMany(read, 's');
        int buyers = howMany(read, 'b');
        int brokers = howMany(read, 'r');
        switch (word.text) {
            case "seller":
                check(sellers == 6, sellers < read.size(), word);
                p.sort = 's';
                p.limit = number(all.get(i + 1), 0, 999);
                p.hands = number(all.get(i + 2), 1, 2);
                i += 3;
                break;
            case "buyer":
                check(buyers == 6, brokers > 0, word);
                p.sort = 'b';
                p.hands = number(all.get(i + 1), 1, 2);
                p.limit = number(all.get(i + 2), 0, 9999);
                p.worths = new int[sellers];
                i += 3;
                if (sellers == 0) {
                    throw new Fault(1, all.get(i).at);
                }
                for (int l = 0; l < sellers; l++) {
                    if (l > 0) {
                        sign(all.get(i++), ",");
                    }
                    p.worths[l] = number(all.get(i++), 0, 999);
                }
                break;
            case "broker":
                check(brokers == 2, false, word);
                p.sort = 'r';
                p.hands = number(all.get(i + 1), 1, 2);
                p.limit = number(all.get(i + 2), 0, 50);
                i += 3;
                break;
            case "binds":
                check(once[0] != NONE, false, word);
                once[0] = number(all.get(i + 1), 1, 99);
                i += 2;
                break;
            case "cost":
                check(once[1] != NONE, false, word);
                once[1] = number(all.get(i + 1), 0, 99);
                i += 2;
                break;
            default:
                throw new Fault(1, word.at);
        }
        sign(all.get(i), ";");
        if (p.sort != 0) {
            read.add(p);
        }
        return i + 1;
    }

    private static void check(boolean isAgain, boolean isBehind, Token word) {
        if (isAgain) {
            throw new Fault(3, word.at);
        }
        if (isBehind) {
            throw new Fault(4, word.at);
        }
    }

    int fault() {
        return faultAt;
    }

    private int sellers() {
        return howMany(persons, 's');
    }

    private int buyers() {
        return howMany(persons, 'b');
    }

    int told(int what) {
        int sold = 0;
        for (int l = 0; l < 6; l++) {
            sold += now.soldTo[l] == NONE ? 0 : 1 << l;
        }
        int[] all = {sellers(), buyers(), howMany(persons, 'r'), text.length(), now.beats, binds, cost, sold,
            book.size(), seen.size()};
        return what < 0 || what > 9 ? OUTSIDE : all[what];
    }

    private boolean isPerson(int p) {
        return p >= 0 && p < persons.size();
    }

    private boolean isLot(int l) {
        return l >= 0 && l < sellers();
    }

    private boolean isBuyer(int b) {
        return b >= 0 && b < buyers();
    }

    private char sort(int p) {
        return persons.get(p).sort;
    }

    /** A SELLER with its own LOT, a BUYER with any. */
    private boolean isDealer(int p, int l) {
        return isPerson(p) && isLot(l) && sort(p) != 'r' && (sort(p) == 'b' || p == l);
    }

    private int heldBy(int p) {
        int set = 0;
        for (int q = 0; q < persons.size(); q++) {
            set += holds(p, q) ? 1 << q : 0;
        }
        return set;
    }

    private boolean holds(int p, int q) {
        return now.pairs.contains(Math.min(p, q) * 100 + Math.max(p, q));
    }

    int person(int p, int what) {
        if (!isPerson(p)) {
            return UNKNOWN;
        }
        if (what < 0 || what > 4) {
            return OUTSIDE;
        }
        int held = heldBy(p);
        Person x = persons.get(p);
        return new int[] {x.hands, x.hands - Integer.bitCount(held), held, x.limit, now.money[p]}[what];
    }

    int worth(int buyer, int lot) {
        return isBuyer(buyer) && isLot(lot) ? w(buyer, lot) : UNKNOWN;
    }

    private int w(int buyer, int lot) {
        return persons.get(sellers() + buyer).worths[lot];
    }

    private Binding binding(int p, int lot) {
        for (Binding b : now.bindings) {
            if (b.p == p && b.lot == lot && now.beats < b.till) {
                return b;
            }
        }
        return null;
    }

    int bound(int p, int lot, int what) {
        if (!isDealer(p, lot)) {
            return UNKNOWN;
        }
        if (what != 0 && what != 1) {
            return OUTSIDE;
        }
        Binding b = binding(p, lot);
        return b == null ? NONE : what == 0 ? b.price : b.till;
    }

    int lot(int l, int what) {
        if (!isLot(l)) {
            return UNKNOWN;
        }
        return what == 0 ? now.soldTo[l] : what == 1 ? now.soldFor[l] : OUTSIDE;
    }

    // ---- hands, presses

    int hold(int p, int q) {
        if (!isPerson(p) || !isPerson(q) || p == q) {
            return UNKNOWN;
        }
        if (sort(p) == sort(q) || holds(p, q) || person(p, 1) == 0 || person(q, 1) == 0) {
            return NOT;
        }
        now.pairs.add(Math.min(p, q) * 100 + Math.max(p, q));
        return 1;
    }

    int loose(int p, int q) {
        if (!isPerson(p) || !isPerson(q) || p == q) {
            return UNKNOWN;
        }
        return now.pairs.remove(Math.min(p, q) * 100 + Math.max(p, q)) ? 1 : NOT;
    }

    int press(int p, int q, int lot, int kind, int f) {
        if (!isPerson(p) || !isPerson(q) || p == q || !isLot(lot)) {
            return UNKNOWN;
        }
        if (f != NONE && (!isPerson(f) || f == p || f == q || sort(f) == 'r')) {
            return UNKNOWN;
        }
        if (kind < 0 || kind > 2) {
            return OUTSIDE;
        }
        int price = price();
        text = "";
        if (price == NONE) {
            return NOT;
        }
        price = kind == 2 ? 2 * price : price;
        int who = f == NONE ? p : f;
        boolean right = price <= 999 && holds(p, q) && now.soldTo[lot] == NONE;
        right &= sort(p) == 'r' ? f != NONE && holds(p, f) : f == NONE;
        right &= sort(who) != 's' || lot == who;
        right &= !(sort(who) == 'b' && sort(q) == 's') || lot == q;
        if (!right) {
            return NOT;
        }
        if (kind != 1 && !bind(who, lot, price)) {
            return NOT;
        }
        return price;
    }

    private boolean bind(int p, int lot, int price) {
        if (now.soldTo[lot] != NONE || binding(p, lot) != null) {
            return false;
        }
        if (sort(p) == 'b') {
            int all = price + now.money[p];
            for (int l = 0; l < sellers(); l++) {
                Binding b = binding(p, l);
                all += b == null || l == lot ? 0 : b.price;
            }
            if (all > persons.get(p).limit) {
                return false;
            }
        }
        now.bindings.add(new Binding(p, lot, price, now.beats + binds));
        trySale(lot);
        return true;
    }

    private void trySale(int lot) {
        Binding asks = binding(lot, lot);
        if (asks == null) {
            return;
        }
        int winner = NONE;
        for (int p = 999; p >= asks.price && winner == NONE; p--) {
            for (int b = buyers() - 1; b >= 0; b--) {
                Binding offers = binding(sellers() + b, lot);
                winner = offers != null && offers.price == p ? b : winner;
            }
        }
        if (winner == NONE) {
            return;
        }
        now.soldTo[lot] = winner;
        now.soldFor[lot] = asks.price;
        now.bindings.removeIf(b -> b.lot == lot);
        now.money[lot] = asks.price;
        now.money[sellers() + winner] += asks.price;
        for (int r = sellers() + buyers(); r < persons.size(); r++) {
            if (holds(r, lot) && holds(r, sellers() + winner)) {
                int fee = asks.price * persons.get(r).limit / 100;
                now.money[r] += fee;
                now.money[lot] -= fee;
                return;
            }
        }
    }

    int price() {
        if (text.length() > 20) {
            return NONE;
        }
        long v = 0;
        for (char c : text.toCharArray()) {
            if ("cxidh".indexOf(c) < 0 || c == 'h' && v % 2 == 1) {
                return NONE;
            }
            v = c == 'c' ? v + 100 : c == 'x' ? v + 10 : c == 'i' ? v + 1 : c == 'd' ? v + v : v / 2;
        }
        return v >= 1 && v <= 999 ? (int) v : NONE;
    }

    /** Counted sign by sign, the greatest that still goes first. */
    int twitches(int price) {
        if (price < 1 || price > 999) {
            return OUTSIDE;
        }
        int count = 0;
        for (int left = price; left > 0; count++) {
            left -= left >= 100 ? 100 : left >= 10 ? 10 : 1;
        }
        return count;
    }

    int beat(int n) {
        if (n < 1 || n > 99) {
            return OUTSIDE;
        }
        now.beats += n;
        return now.beats;
    }

    private int draw(int n) {
        now.seed = java.math.BigInteger.valueOf(now.seed).multiply(java.math.BigInteger.valueOf(1103515245))
            .add(java.math.BigInteger.valueOf(12345)).mod(java.math.BigInteger.ONE.shiftLeft(31)).longValue();
        return (int) (now.seed / 65536 % n);
    }

    int drift(int n) {
        if (n < 1 || n > 60) {
            return OUTSIDE;
        }
        for (int k = 0; k < n; k++) {
            for (int s = 0; s < sellers(); s++) {
                int price = persons.get(s).limit + draw(50);
                if (price >= 1 && price <= 999) {
                    bind(s, s, price);
                }
            }
            for (int b = 0; b < buyers(); b++) {
                int l = draw(sellers());
                int price = w(b, l) - draw(50);
                if (price >= 1 && price <= 999) {
                    bind(sellers() + b, l, price);
                }
            }
            now.beats++;
        }
        return Integer.bitCount(told(7));
    }

    // ---- bargains, who buys what

    int bargain(int seller, int buyer, int n) {
        if (!isLot(seller) || !isBuyer(buyer)) {
            return UNKNOWN;
        }
        if (n < 1 || n > 40) {
            return OUTSIDE;
        }
        int share = w(buyer, seller) - persons.get(seller).limit;
        return share < 0 ? NONE : persons.get(seller).limit + offererHas(share, 0, n);
    }

    private int offererHas(int share, int k, int n) {
        int left = Math.max(0, share - k * cost);
        return k == n - 1 ? left : Math.max(0, left - offererHas(share, k + 1, n));
    }

    /** Reserves by lot, and worths by lot and buyer, as they are told. */
    private static final class Offer {
        int[] reserves;
        int[][] worths;

        Offer twice(int l) {
            Offer o = new Offer();
            o.reserves = java.util.Arrays.copyOf(reserves, reserves.length + 1);
            o.worths = java.util.Arrays.copyOf(worths, worths.length + 1);
            o.reserves[reserves.length] = reserves[l];
            o.worths[worths.length] = worths[l];
            return o;
        }

        Offer without(int l) {
            Offer o = twice(l);
            o.reserves[l] = 1000;
            o.reserves[reserves.length] = 1000;
            return o;
        }
    }

    private Offer offer() {
        Offer o = new Offer();
        o.reserves = new int[sellers()];
        o.worths = new int[sellers()][buyers()];
        for (int l = 0; l < sellers(); l++) {
            o.reserves[l] = persons.get(l).limit;
            for (int b = 0; b < buyers(); b++) {
                o.worths[l][b] = w(b, l);
            }
        }
        return o;
    }

    /** The first of the best found so far: gain, lots, then the buyers. */
    private int[] top;

    /** All allocations, in the order of "the first": only a better one takes the place of one before. */
    private int[] bestOf(Offer o) {
        top = null;
        allocate(o, 0, 0, 0, 0, new int[o.reserves.length]);
        return top;
    }

    private void allocate(Offer o, int l, int used, int gain, int sold, int[] to) {
        if (l == o.reserves.length) {
            if (top == null || gain > top[0] || gain == top[0] && sold > top[1]) {
                top = new int[l + 2];
                top[0] = gain;
                top[1] = sold;
                System.arraycopy(to, 0, top, 2, l);
            }
            return;
        }
        for (int b = 0; b < buyers(); b++) {
            if ((used >> b & 1) == 0 && o.worths[l][b] >= o.reserves[l]) {
                to[l] = b;
                allocate(o, l + 1, used | 1 << b, gain + o.worths[l][b] - o.reserves[l], sold + 1, to);
            }
        }
        to[l] = NONE;
        allocate(o, l + 1, used, gain, sold, to);
    }

    int best(int what) {
        if (what < 0 || what > sellers() + 1) {
            return OUTSIDE;
        }
        return bestOf(offer())[what];
    }

    private int edge(Offer o, int l, boolean least) {
        int gain = bestOf(o)[0];
        return o.reserves[l] + (least ? bestOf(o.twice(l))[0] - gain : gain - bestOf(o.without(l))[0]);
    }

    int span(int lot, int what) {
        if (!isLot(lot)) {
            return UNKNOWN;
        }
        return what != 0 && what != 1 ? OUTSIDE : edge(offer(), lot, what == 0);
    }

    private int gains(int rule, int p, int l, int v) {
        Offer o = offer();
        int buyer = p - sellers();
        if (sort(p) == 's') {
            o.reserves[l] = v;
        } else {
            o.worths[l][buyer] = v;
        }
        int[] found = bestOf(o);
        for (int m = 0; m < sellers(); m++) {
            int to = found[2 + m];
            if (to != NONE && (sort(p) == 's' ? m == p : to == buyer)) {
                int price = rule == 0 ? (o.worths[m][to] + o.reserves[m]) / 2 : edge(o, m, rule == 1);
                return sort(p) == 's' ? price - persons.get(p).limit : w(buyer, m) - price;
            }
        }
        return 0;
    }

    private int truth(int p, int l) {
        return sort(p) == 's' ? persons.get(p).limit : w(p - sellers(), l);
    }

    int lie(int rule, int p, int l, int v) {
        if (!isDealer(p, l)) {
            return UNKNOWN;
        }
        if (rule < 0 || rule > 2 || v < 0 || v > 999) {
            return OUTSIDE;
        }
        return gains(rule, p, l, v) - gains(rule, p, l, truth(p, l));
    }

    int bestLie(int rule, int p, int l, int what) {
        if (!isDealer(p, l)) {
            return UNKNOWN;
        }
        if (rule < 0 || rule > 2 || what < 0 || what > 1) {
            return OUTSIDE;
        }
        int found = 0;
        int most = Integer.MIN_VALUE;
        for (int v = 0; v <= 999; v++) {
            int worth = gains(rule, p, l, v);
            if (worth > most) {
                most = worth;
                found = v;
            }
        }
        return what == 0 ? found : most - gains(rule, p, l, truth(p, l));
    }

    // ---- what was seen

    int seen(int l, int w, int e, boolean isDouble) {
        if (!isLot(l)) {
            return UNKNOWN;
        }
        if (w < 0 || w > 60 || e < 0 || e > 9) {
            return OUTSIDE;
        }
        if (seen.size() == 10) {
            return FULL;
        }
        seen.add(new int[] {l, w, e, isDouble ? 2 : 1});
        return seen.size();
    }

    int forget() {
        int count = seen.size();
        seen.clear();
        return count;
    }

    private List<Integer> fitting(int l) {
        List<Integer> all = new ArrayList<>();
        for (int price = 1; price <= 999; price++) {
            boolean fit = true;
            for (int[] s : seen) {
                if (s[0] == l) {
                    fit &= price % s[3] == 0;
                    int w = fit ? twitches(price / s[3]) : 0;
                    fit &= w >= s[1] - s[2] && w <= s[1] + s[2];
                }
            }
            if (fit) {
                all.add(price);
            }
        }
        return all;
    }

    int fits(int l, int what) {
        if (!isLot(l)) {
            return UNKNOWN;
        }
        if (what < 0 || what > 2) {
            return OUTSIDE;
        }
        List<Integer> all = fitting(l);
        if (what == 0) {
            return all.size();
        }
        return all.isEmpty() ? NONE : what == 1 ? all.get(0) : all.get(all.size() - 1);
    }

    int wentFor(int s, int what) {
        if (s < 0 || s > 9999 || what < 0 || what > 1) {
            return OUTSIDE;
        }
        int lots = sellers();
        boolean[][] reached = new boolean[1 << lots][6000];
        reached[0][0] = true;
        int count = 0;
        int common = (1 << lots) - 1;
        for (int set = 0; set < 1 << lots; set++) {
            if (set > 0) {
                int last = 31 - Integer.numberOfLeadingZeros(set);
                boolean[] before = reached[set - (1 << last)];
                for (int price : fitting(last)) {
                    for (int v = price; v <= s && v < 6000; v++) {
                        reached[set][v] |= before[v - price];
                    }
                }
            }
            if (s < 6000 && reached[set][s]) {
                count++;
                common &= set;
            }
        }
        return what == 0 ? count : count == 0 ? NONE : common;
    }

    int meetings(int what) {
        if (what < 0 || what > 1) {
            return OUTSIDE;
        }
        List<int[]> pairs = new ArrayList<>();
        for (int s = 0; s < sellers(); s++) {
            for (int b = 0; b < buyers(); b++) {
                if (persons.get(s).limit <= w(b, s)) {
                    pairs.add(new int[] {s, sellers() + b, NONE});
                }
            }
        }
        int most = 0;
        if (what == 0) {
            for (int p = 0; p < persons.size(); p++) {
                int who = p;
                int count = (int) pairs.stream().filter(x -> x[0] == who || x[1] == who).count();
                most = Math.max(most, (count + persons.get(p).hands - 1) / persons.get(p).hands);
            }
            return most;
        }
        for (int[] pair : pairs) {
            int t = 0;
            while (busy(pairs, pair[0], t) || busy(pairs, pair[1], t)) {
                t++;
            }
            pair[2] = t;
            most = Math.max(most, t + 1);
        }
        return most;
    }

    private boolean busy(List<int[]> pairs, int p, int t) {
        return pairs.stream().filter(x -> x[2] == t && (x[0] == p || x[1] == p)).count() >= persons.get(p).hands;
    }

    // ---- books, draws, images

    int write(int beat, int p, int lot, int price) {
        if (!isDealer(p, lot)) {
            return UNKNOWN;
        }
        if (beat < 0 || beat > 9999 || price < 1 || price > 999) {
            return OUTSIDE;
        }
        if (book.size() == 30) {
            return FULL;
        }
        book.add(new int[] {beat, p, lot, price});
        return book.size();
    }

    int tear() {
        int count = book.size();
        book.clear();
        return count;
    }

    int judge() {
        for (int i = 0; i < book.size(); i++) {
            int[] x = book.get(i);
            int left = sort(x[1]) == 'b' ? persons.get(x[1]).limit : 999;
            boolean wrong = i > 0 && x[0] < book.get(i - 1)[0];
            for (int[] y : book.subList(0, i)) {
                if (y[1] == x[1] && x[0] < y[0] + binds) {
                    wrong |= y[2] == x[2];
                    left -= y[2] == x[2] ? 0 : y[3];
                }
            }
            if (wrong || x[3] > left) {
                return i;
            }
        }
        return NONE;
    }

    int seed(int v) {
        if (v < 0) {
            return OUTSIDE;
        }
        int before = (int) now.seed;
        now.seed = v;
        return before;
    }

    int keep(int i) {
        if (i != 0 && i != 1) {
            return UNKNOWN;
        }
        images[i] = now.copy();
        return 1;
    }

    int goBack(int i) {
        if (i != 0 && i != 1) {
            return UNKNOWN;
        }
        if (images[i] == null) {
            return NOT;
        }
        now = images[i].copy();
        return 1;
    }
}
