import java.util.Arrays;

/**
 * Prices under a cloth: a market that is told in a text, hands and presses, bargains,
 * who buys what at best, what a watcher can tell, books, draws and images.
 *
 * <p>Every row is made by the constructor and used again: no call makes an object.
 */
public final class ClothPrices {
    public static final int NONE = -1, UNKNOWN = -1000001, OUTSIDE = -1000002, NOT = -1000003, FULL = -1000004;

    private static final int MOST_LOTS = 6;
    private static final int MOST_BUYERS = 6;
    private static final int MOST_BROKERS = 2;
    private static final int MOST_PERSONS = 14;
    private static final int MOST_BYTES = 500;
    private static final int MOST_SIGNS = 20;
    private static final int MOST_SEEN = 10;
    private static final int MOST_WRITTEN = 30;
    private static final int IMAGES = 2;
    private static final int TOP_PRICE = 999;
    private static final int TOP_PURSE = 9999;
    private static final int TOP_BEAT = 9999;

    private static final int SELLER = 0, BUYER = 1, BROKER = 2;
    private static final int PLAIN = 0, VOID = 1, DOUBLE = 2;
    private static final int HALFWAY = 0, LEAST = 1, MOST = 2;

    private final Text text;
    private final Market market;
    private final Reader reader;
    private final Course now;
    private final Course[] images;
    private final boolean[] kept;
    private final Trade trade;
    private final Watcher watcher;
    private final Sums sums;
    private final Meetings meetings;
    private final Book book;
    private int faultByte;

    public ClothPrices() {
        text = new Text();
        market = new Market();
        reader = new Reader(text);
        now = new Course(market);
        images = new Course[IMAGES];
        for (int i = 0; i < IMAGES; i++) {
            images[i] = new Course(market);
        }
        kept = new boolean[IMAGES];
        trade = new Trade(market);
        watcher = new Watcher();
        sums = new Sums(watcher);
        meetings = new Meetings(market);
        book = new Book(market);
        faultByte = NONE;
    }

    // ---- the market

    public int feed(int n, long bytes) {
        if (!isWithin(n, 1, 8)) {
            return OUTSIDE;
        }
        if (text.size + n > MOST_BYTES) {
            return FULL;
        }
        text.append(n, bytes);
        return text.size;
    }

    public int market() {
        int fault = reader.readText();
        text.size = 0;
        if (fault != 0) {
            faultByte = reader.faultAt;
            return -10 - fault;
        }
        faultByte = NONE;
        market.become(reader.draft);
        now.begin();
        kept[0] = false;
        kept[1] = false;
        watcher.count = 0;
        sums.stale = true;
        book.count = 0;
        return market.persons();
    }

    public int fault() {
        return faultByte;
    }

    public int told(int what) {
        switch (what) {
            case 0: return market.sellers;
            case 1: return market.buyers;
            case 2: return market.brokers;
            case 3: return text.size;
            case 4: return now.beats;
            case 5: return market.binds;
            case 6: return market.cost;
            case 7: return now.soldLots();
            case 8: return book.count;
            case 9: return watcher.count;
            default: return OUTSIDE;
        }
    }

    public int person(int p, int what) {
        if (!market.hasPerson(p)) {
            return UNKNOWN;
        }
        switch (what) {
            case 0: return market.hands[p];
            case 1: return now.freeHands(p);
            case 2: return now.held[p];
            case 3: return market.limits[p];
            case 4: return now.money[p];
            default: return OUTSIDE;
        }
    }

    public int worth(int buyer, int lot) {
        if (!market.hasBuyer(buyer) || !market.hasLot(lot)) {
            return UNKNOWN;
        }
        return market.worths[buyer * MOST_LOTS + lot];
    }

    public int bound(int p, int lot, int what) {
        if (!market.dealsIn(p, lot)) {
            return UNKNOWN;
        }
        if (!isWithin(what, 0, 1)) {
            return OUTSIDE;
        }
        if (!now.isBound(p, lot)) {
            return NONE;
        }
        int cell = p * MOST_LOTS + lot;
        return what == 0 ? now.boundTo[cell] : now.boundTill[cell];
    }

    public int lot(int l, int what) {
        if (!market.hasLot(l)) {
            return UNKNOWN;
        }
        switch (what) {
            case 0: return now.soldTo[l];
            case 1: return now.soldFor[l];
            default: return OUTSIDE;
        }
    }

    // ---- hands, presses

    public int hold(int p, int q) {
        if (!areTwoPersons(p, q)) {
            return UNKNOWN;
        }
        if (!now.mayHold(p, q)) {
            return NOT;
        }
        now.join(p, q);
        return 1;
    }

    public int loose(int p, int q) {
        if (!areTwoPersons(p, q)) {
            return UNKNOWN;
        }
        if (!now.holds(p, q)) {
            return NOT;
        }
        now.part(p, q);
        return 1;
    }

    public int press(int p, int q, int lot, int kind, int f) {
        if (!areTwoPersons(p, q) || !market.hasLot(lot) || !canBeFor(p, q, f)) {
            return UNKNOWN;
        }
        if (!isWithin(kind, PLAIN, DOUBLE)) {
            return OUTSIDE;
        }
        int price = text.pricePressed();
        text.size = 0;
        if (kind == DOUBLE && price != NONE) {
            price = price * 2 <= TOP_PRICE ? price * 2 : NONE;
        }
        int whom = f == NONE ? p : f;
        if (price == NONE || !now.maySpeak(p, q, lot, whom)) {
            return NOT;
        }
        if (kind == VOID) {
            return price;
        }
        if (!now.mayBind(whom, lot, price)) {
            return NOT;
        }
        now.bind(whom, lot, price);
        return price;
    }

    public int price() {
        return text.pricePressed();
    }

    public int twitches(int price) {
        return isWithin(price, 1, TOP_PRICE) ? signsOf(price) : OUTSIDE;
    }

    public int beat(int n) {
        if (!isWithin(n, 1, 99)) {
            return OUTSIDE;
        }
        now.beats += n;
        return now.beats;
    }

    public int drift(int n) {
        if (!isWithin(n, 1, 60)) {
            return OUTSIDE;
        }
        for (int k = 0; k < n; k++) {
            now.driftBeat();
        }
        return Integer.bitCount(now.soldLots());
    }

    // ---- bargains, who buys what

    public int bargain(int seller, int buyer, int n) {
        if (!market.hasLot(seller) || !market.hasBuyer(buyer)) {
            return UNKNOWN;
        }
        if (!isWithin(n, 1, 40)) {
            return OUTSIDE;
        }
        return market.bargainPrice(seller, buyer, n);
    }

    public int best(int what) {
        if (!isWithin(what, 0, 1 + market.sellers)) {
            return OUTSIDE;
        }
        long score = trade.scoreOfAll();
        switch (what) {
            case 0: return Trade.gainIn(score);
            case 1: return Trade.lotsIn(score);
            default: return Trade.buyerIn(score, what - 2);
        }
    }

    public int span(int lot, int what) {
        if (!market.hasLot(lot)) {
            return UNKNOWN;
        }
        if (!isWithin(what, 0, 1)) {
            return OUTSIDE;
        }
        return trade.edgePrice(lot, what == 0 ? LEAST : MOST);
    }

    public int lie(int rule, int p, int l, int v) {
        if (!market.dealsIn(p, l)) {
            return UNKNOWN;
        }
        if (!isWithin(rule, HALFWAY, MOST) || !isWithin(v, 0, TOP_PRICE)) {
            return OUTSIDE;
        }
        trade.open(rule, p, l);
        return trade.gainsIfTold(v) - trade.gainsIfTold(trade.truth());
    }

    public int bestLie(int rule, int p, int l, int what) {
        if (!market.dealsIn(p, l)) {
            return UNKNOWN;
        }
        if (!isWithin(rule, HALFWAY, MOST) || !isWithin(what, 0, 1)) {
            return OUTSIDE;
        }
        trade.open(rule, p, l);
        int bestTold = 0;
        int bestGains = trade.gainsIfTold(0);
        for (int v = 1; v <= TOP_PRICE; v++) {
            int gains = trade.gainsIfTold(v);
            if (gains > bestGains) {
                bestGains = gains;
                bestTold = v;
            }
        }
        return what == 0 ? bestTold : bestGains - trade.gainsIfTold(trade.truth());
    }

    // ---- what was seen

    public int seen(int l, int w, int e, boolean isDouble) {
        if (!market.hasLot(l)) {
            return UNKNOWN;
        }
        if (!isWithin(w, 0, 60) || !isWithin(e, 0, 9)) {
            return OUTSIDE;
        }
        if (watcher.count >= MOST_SEEN) {
            return FULL;
        }
        watcher.note(l, w, e, isDouble);
        sums.stale = true;
        return watcher.count;
    }

    public int forget() {
        int count = watcher.count;
        watcher.count = 0;
        sums.stale = true;
        return count;
    }

    public int fits(int l, int what) {
        if (!market.hasLot(l)) {
            return UNKNOWN;
        }
        switch (what) {
            case 0: return watcher.howMany(l);
            case 1: return watcher.least(l);
            case 2: return watcher.greatest(l);
            default: return OUTSIDE;
        }
    }

    public int wentFor(int s, int what) {
        if (!isWithin(s, 0, TOP_PURSE) || !isWithin(what, 0, 1)) {
            return OUTSIDE;
        }
        sums.refresh(market.sellers);
        return what == 0 ? sums.setsFor(s, market.sellers) : sums.lotsInAll(s, market.sellers);
    }

    public int meetings(int what) {
        switch (what) {
            case 0: return meetings.byHands();
            case 1: return meetings.byOrder();
            default: return OUTSIDE;
        }
    }

    // ---- books, draws, images

    public int write(int beat, int p, int lot, int price) {
        if (!market.dealsIn(p, lot)) {
            return UNKNOWN;
        }
        if (!isWithin(beat, 0, TOP_BEAT) || !isWithin(price, 1, TOP_PRICE)) {
            return OUTSIDE;
        }
        if (book.count >= MOST_WRITTEN) {
            return FULL;
        }
        book.append(beat, p, lot, price);
        return book.count;
    }

    public int tear() {
        int count = book.count;
        book.count = 0;
        return count;
    }

    public int judge() {
        return book.firstWrong();
    }

    public int seed(int v) {
        if (v < 0) {
            return OUTSIDE;
        }
        int before = now.seed;
        now.seed = v;
        return before;
    }

    public int keep(int i) {
        if (!isWithin(i, 0, IMAGES - 1)) {
            return UNKNOWN;
        }
        images[i].become(now);
        kept[i] = true;
        return 1;
    }

    public int goBack(int i) {
        if (!isWithin(i, 0, IMAGES - 1)) {
            return UNKNOWN;
        }
        if (!kept[i]) {
            return NOT;
        }
        now.become(images[i]);
        return 1;
    }

    private boolean areTwoPersons(int p, int q) {
        return market.hasPerson(p) && market.hasPerson(q) && p != q;
    }

    /** Whether f is NONE, or a SELLER or BUYER besides the two whose hands are at it. */
    private boolean canBeFor(int p, int q, int f) {
        if (f == NONE) {
            return true;
        }
        return market.hasPerson(f) && f != p && f != q && market.sortOf(f) != BROKER;
    }

    private static boolean isWithin(int v, int least, int most) {
        return v >= least && v <= most;
    }

    /** A sign for each hundred, ten and one: no other row of 'c', 'x', 'i' is shorter. */
    private static int signsOf(int price) {
        return price / 100 + price / 10 % 10 + price % 10;
    }

    /** THE TEXT: what was fed and not yet taken by a market or a press. */
    private static final class Text {
        final byte[] bytes = new byte[MOST_BYTES];
        int size;

        void append(int n, long packed) {
            for (int k = n - 1; k >= 0 && size < MOST_BYTES; k--) {
                bytes[size] = (byte) (packed >>> (8 * k));
                size++;
            }
        }

        /** The byte at a place, 0 to 255; NONE at the end. */
        int byteAt(int place) {
            return place >= 0 && place < size && place < MOST_BYTES ? bytes[place] & 255 : NONE;
        }

        int pricePressed() {
            if (size > MOST_SIGNS) {
                return NONE;
            }
            int sum = 0;
            for (int i = 0; i < size && sum != NONE; i++) {
                sum = afterSign(sum, byteAt(i));
            }
            return isWithin(sum, 1, TOP_PRICE) ? sum : NONE;
        }

        private static int afterSign(int sum, int sign) {
            switch (sign) {
                case 'c': return sum + 100;
                case 'x': return sum + 10;
                case 'i': return sum + 1;
                case 'd': return sum * 2;
                case 'h': return sum % 2 == 0 ? sum / 2 : NONE;
                default: return NONE;
            }
        }
    }

    /** What a text told: it stays as it is till the next market. */
    private static final class Market {
        int sellers;
        int buyers;
        int brokers;
        int binds;
        int cost;
        final int[] hands = new int[MOST_PERSONS];
        /** RESERVE, PURSE or fee, by the PERSON's sort. */
        final int[] limits = new int[MOST_PERSONS];
        final int[] worths = new int[MOST_BUYERS * MOST_LOTS];

        Market() {
            clear();
        }

        void clear() {
            sellers = 0;
            buyers = 0;
            brokers = 0;
            binds = 12;
            cost = 2;
        }

        void become(Market other) {
            sellers = other.sellers;
            buyers = other.buyers;
            brokers = other.brokers;
            binds = other.binds;
            cost = other.cost;
            System.arraycopy(other.hands, 0, hands, 0, MOST_PERSONS);
            System.arraycopy(other.limits, 0, limits, 0, MOST_PERSONS);
            System.arraycopy(other.worths, 0, worths, 0, MOST_BUYERS * MOST_LOTS);
        }

        int persons() {
            return sellers + buyers + brokers;
        }

        boolean hasPerson(int p) {
            return p >= 0 && p < persons();
        }

        boolean hasLot(int l) {
            return l >= 0 && l < sellers;
        }

        boolean hasBuyer(int b) {
            return b >= 0 && b < buyers;
        }

        int sortOf(int p) {
            if (p < sellers) {
                return SELLER;
            }
            return p < sellers + buyers ? BUYER : BROKER;
        }

        /** Whether p can be bound about the LOT at all. */
        boolean dealsIn(int p, int l) {
            if (!hasPerson(p) || !hasLot(l)) {
                return false;
            }
            int sort = sortOf(p);
            return sort == BUYER || sort == SELLER && p == l;
        }

        int worthOf(int buyer, int l) {
            return worths[buyer * MOST_LOTS + l];
        }

        int bargainPrice(int seller, int buyer, int n) {
            int share = worthOf(buyer, seller) - limits[seller];
            if (share < 0) {
                return NONE;
            }
            int offerer = 0;
            for (int k = n - 1; k >= 0; k--) {
                offerer = Math.max(0, Math.max(0, share - k * cost) - offerer);
            }
            return limits[seller] + offerer;
        }
    }

    /** Reads THE TEXT into a draft, so that a FAULT leaves the market as it was. */
    private static final class Reader {
        private static final int WRONG_PLACE = 1, WRONG_NUMBER = 2, TOLD_ALREADY = 3, WRONG_ORDER = 4;
        private static final int BLANK = 32;
        private static final int MOST_FIGURES = 4;

        private final Text text;
        final Market draft = new Market();
        int faultAt;
        private int fault;
        private int place;
        private boolean bindsTold;
        private boolean costTold;

        Reader(Text text) {
            this.text = text;
        }

        /** The number of the FAULT, 0 if there is none. */
        int readText() {
            draft.clear();
            fault = 0;
            faultAt = NONE;
            place = 0;
            bindsTold = false;
            costTold = false;
            skipBlanks();
            for (int k = 0; k < MOST_BYTES && fault == 0 && place < text.size; k++) {
                readClause();
                skipBlanks();
            }
            return fault;
        }

        /** Takes a letter at least, or finds a FAULT: there are no more clauses than bytes. */
        private void readClause() {
            int start = place;
            skipLetters();
            if (isWord(start, "seller")) {
                readSeller(start);
            } else if (isWord(start, "buyer")) {
                readBuyer(start);
            } else if (isWord(start, "broker")) {
                readBroker(start);
            } else if (isWord(start, "binds")) {
                refuseIf(bindsTold, TOLD_ALREADY, start);
                bindsTold = true;
                draft.binds = readNumber(1, 99);
                readSign(';');
            } else if (isWord(start, "cost")) {
                refuseIf(costTold, TOLD_ALREADY, start);
                costTold = true;
                draft.cost = readNumber(0, 99);
                readSign(';');
            } else {
                refuseIf(true, WRONG_PLACE, start);
            }
        }

        private void readSeller(int start) {
            refuseIf(draft.sellers >= MOST_LOTS, TOLD_ALREADY, start);
            refuseIf(draft.buyers + draft.brokers > 0, WRONG_ORDER, start);
            int reserve = readNumber(0, TOP_PRICE);
            int hands = readNumber(1, 2);
            readSign(';');
            if (fault == 0) {
                addPerson(hands, reserve);
                draft.sellers++;
            }
        }

        private void readBuyer(int start) {
            refuseIf(draft.buyers >= MOST_BUYERS, TOLD_ALREADY, start);
            refuseIf(draft.brokers > 0, WRONG_ORDER, start);
            int hands = readNumber(1, 2);
            int purse = readNumber(0, TOP_PURSE);
            skipBlanks();
            refuseIf(draft.sellers == 0, WRONG_PLACE, place);
            for (int l = 0; l < draft.sellers && fault == 0; l++) {
                if (l > 0) {
                    readSign(',');
                }
                draft.worths[draft.buyers * MOST_LOTS + l] = readNumber(0, TOP_PRICE);
            }
            readSign(';');
            if (fault == 0) {
                addPerson(hands, purse);
                draft.buyers++;
            }
        }

        private void readBroker(int start) {
            refuseIf(draft.brokers >= MOST_BROKERS, TOLD_ALREADY, start);
            int hands = readNumber(1, 2);
            int fee = readNumber(0, 50);
            readSign(';');
            if (fault == 0) {
                addPerson(hands, fee);
                draft.brokers++;
            }
        }

        private void addPerson(int hands, int limit) {
            int p = draft.persons();
            if (p < MOST_PERSONS) {
                draft.hands[p] = hands;
                draft.limits[p] = limit;
            }
        }

        /** A NUMBER within bounds; what it answers behind a FAULT is not used. */
        private int readNumber(int least, int most) {
            skipBlanks();
            int start = place;
            int number = 0;
            while (place < text.size && isFigure(text.byteAt(place))) {
                if (place - start < MOST_FIGURES) {
                    number = number * 10 + text.byteAt(place) - '0';
                }
                place++;
            }
            refuseIf(place == start, WRONG_PLACE, start);
            refuseIf(place - start > MOST_FIGURES || !isWithin(number, least, most), WRONG_NUMBER, start);
            return number;
        }

        private void readSign(int sign) {
            skipBlanks();
            refuseIf(text.byteAt(place) != sign, WRONG_PLACE, place);
            place++;
        }

        private boolean isWord(int start, String word) {
            if (place - start != word.length()) {
                return false;
            }
            for (int i = 0; i < word.length(); i++) {
                if (text.byteAt(start + i) != word.charAt(i)) {
                    return false;
                }
            }
            return true;
        }

        /** Only the first FAULT counts: the text is read on behind it for nothing. */
        private void refuseIf(boolean isWrong, int kind, int at) {
            if (isWrong && fault == 0) {
                fault = kind;
                faultAt = at;
            }
        }

        private void skipBlanks() {
            while (place < text.size && text.byteAt(place) == BLANK) {
                place++;
            }
        }

        private void skipLetters() {
            while (place < text.size && isWithin(text.byteAt(place), 'a', 'z')) {
                place++;
            }
        }

        private static boolean isFigure(int sign) {
            return isWithin(sign, '0', '9');
        }
    }

    /** What changes while a market goes on: an IMAGE is one of these. */
    private static final class Course {
        private final Market market;
        int beats;
        int seed;
        final int[] held = new int[MOST_PERSONS];
        /** By PERSON and LOT; 0: not bound. */
        final int[] boundTo = new int[MOST_PERSONS * MOST_LOTS];
        final int[] boundTill = new int[MOST_PERSONS * MOST_LOTS];
        final int[] soldTo = new int[MOST_LOTS];
        final int[] soldFor = new int[MOST_LOTS];
        final int[] money = new int[MOST_PERSONS];

        Course(Market market) {
            this.market = market;
            begin();
        }

        /** THE SEED stays: no market puts it back. */
        void begin() {
            beats = 0;
            Arrays.fill(held, 0);
            Arrays.fill(boundTo, 0);
            Arrays.fill(boundTill, 0);
            Arrays.fill(soldTo, NONE);
            Arrays.fill(soldFor, NONE);
            Arrays.fill(money, 0);
        }

        void become(Course other) {
            beats = other.beats;
            seed = other.seed;
            System.arraycopy(other.held, 0, held, 0, MOST_PERSONS);
            System.arraycopy(other.boundTo, 0, boundTo, 0, MOST_PERSONS * MOST_LOTS);
            System.arraycopy(other.boundTill, 0, boundTill, 0, MOST_PERSONS * MOST_LOTS);
            System.arraycopy(other.soldTo, 0, soldTo, 0, MOST_LOTS);
            System.arraycopy(other.soldFor, 0, soldFor, 0, MOST_LOTS);
            System.arraycopy(other.money, 0, money, 0, MOST_PERSONS);
        }

        int freeHands(int p) {
            return market.hands[p] - Integer.bitCount(held[p]);
        }

        boolean holds(int p, int q) {
            return (held[p] >> q & 1) == 1;
        }

        boolean mayHold(int p, int q) {
            return market.sortOf(p) != market.sortOf(q) && !holds(p, q)
                && freeHands(p) > 0 && freeHands(q) > 0;
        }

        void join(int p, int q) {
            held[p] |= 1 << q;
            held[q] |= 1 << p;
        }

        void part(int p, int q) {
            held[p] &= ~(1 << q);
            held[q] &= ~(1 << p);
        }

        boolean isSold(int l) {
            return soldTo[l] != NONE;
        }

        int soldLots() {
            int set = 0;
            for (int l = 0; l < market.sellers; l++) {
                set |= isSold(l) ? 1 << l : 0;
            }
            return set;
        }

        boolean isBound(int p, int l) {
            int cell = p * MOST_LOTS + l;
            return boundTo[cell] > 0 && beats < boundTill[cell];
        }

        /** Whether p can press to q about the LOT for whom, whatever the price is. */
        boolean maySpeak(int p, int q, int l, int whom) {
            if (isSold(l) || !holds(p, q) || !maySpeakFor(p, whom)) {
                return false;
            }
            if (market.sortOf(whom) == SELLER) {
                return l == whom;
            }
            return market.sortOf(q) != SELLER || l == q;
        }

        /** All but BROKERS speak for themselves alone, BROKERS for others alone. */
        private boolean maySpeakFor(int p, int whom) {
            if (market.sortOf(p) == BROKER) {
                return p != whom && holds(p, whom);
            }
            return p == whom;
        }

        boolean mayBind(int p, int l, int price) {
            if (isSold(l) || isBound(p, l)) {
                return false;
            }
            return market.sortOf(p) != BUYER || price <= leftInPurse(p, l);
        }

        /** What a BUYER can still be bound to about the LOT. */
        private int leftInPurse(int p, int l) {
            int left = market.limits[p] - money[p];
            for (int other = 0; other < market.sellers; other++) {
                if (other != l && isBound(p, other)) {
                    left -= boundTo[p * MOST_LOTS + other];
                }
            }
            return left;
        }

        void bind(int p, int l, int price) {
            int cell = p * MOST_LOTS + l;
            boundTo[cell] = price;
            boundTill[cell] = beats + market.binds;
            int winner = winnerOf(l);
            if (winner != NONE) {
                sell(l, winner, boundTo[l * MOST_LOTS + l]);
            }
        }

        /** The BUYER to whom the LOT is to be SOLD as all are bound now; NONE. */
        private int winnerOf(int l) {
            if (!isBound(l, l)) {
                return NONE;
            }
            int asked = boundTo[l * MOST_LOTS + l];
            int highest = 0;
            int winner = NONE;
            for (int b = 0; b < market.buyers; b++) {
                int p = market.sellers + b;
                int offered = boundTo[p * MOST_LOTS + l];
                if (isBound(p, l) && offered >= asked && offered > highest) {
                    highest = offered;
                    winner = b;
                }
            }
            return winner;
        }

        private void sell(int l, int buyer, int asked) {
            soldTo[l] = buyer;
            soldFor[l] = asked;
            for (int p = 0; p < market.persons(); p++) {
                boundTo[p * MOST_LOTS + l] = 0;
            }
            int p = market.sellers + buyer;
            money[p] += asked;
            money[l] += asked;
            int broker = brokerOf(l, p);
            if (broker != NONE) {
                int fee = asked * market.limits[broker] / 100;
                money[broker] += fee;
                money[l] -= fee;
            }
        }

        /** The least BROKER that HOLDS both; NONE. */
        private int brokerOf(int seller, int p) {
            for (int r = market.sellers + market.buyers; r < market.persons(); r++) {
                if (holds(r, seller) && holds(r, p)) {
                    return r;
                }
            }
            return NONE;
        }

        private int draw(int n) {
            seed = (int) ((seed * 1103515245L + 12345L) & 0x7fffffffL);
            return n > 0 ? seed / 65536 % n : 0;
        }

        void driftBeat() {
            for (int s = 0; s < market.sellers; s++) {
                bindIfMay(s, s, market.limits[s] + draw(50));
            }
            for (int b = 0; b < market.buyers; b++) {
                int l = draw(market.sellers);
                bindIfMay(market.sellers + b, l, market.worthOf(b, l) - draw(50));
            }
            beats++;
        }

        private void bindIfMay(int p, int l, int price) {
            if (isWithin(price, 1, TOP_PRICE) && mayBind(p, l, price)) {
                bind(p, l, price);
            }
        }
    }

    /**
     * WHO BUYS WHAT, as scores: a score holds GAIN, then how many LOTS are sold, then how far behind
     * the order of buyers is, so that the greatest score is BEST alone. A table has the greatest score
     * of some LOTS for each SET of BUYERS that may buy.
     */
    private static final class Trade {
        private static final int COUNTS = 8;
        /** Above all that orders can sum up to, with a LOT twice. */
        private static final long UNIT = 2 * 117649;
        private static final int CHOICES = 7;
        private static final int NOBODY = 6;
        private static final int[] PLACES = {16807, 2401, 343, 49, 7, 1};
        /** Far below all scores, and far enough above the least long to be added to. */
        private static final long NEVER = -(1L << 60);

        private final Market market;
        private final int[] reserves = new int[MOST_LOTS];
        private final int[] worths = new int[MOST_BUYERS * MOST_LOTS];
        /** What it scores if a BUYER buys a LOT, as they are told now; NEVER if it cannot. */
        private final long[] scores = new long[MOST_BUYERS * MOST_LOTS];
        /** Of all LOTS but the one that is told about: no LIE about that one changes it. */
        private final long[] rest = new long[1 << MOST_BUYERS];
        /** As rest, but for one LOT more that is there twice or not at all. */
        private final long[] side = new long[1 << MOST_BUYERS];
        private int sideLot;
        private int rule;
        private int liar;
        private int about;

        Trade(Market market) {
            this.market = market;
        }

        static int gainIn(long score) {
            return (int) (keyIn(score) / COUNTS);
        }

        static int lotsIn(long score) {
            return (int) (keyIn(score) % COUNTS);
        }

        static int buyerIn(long score, int l) {
            long order = keyIn(score) * UNIT - score;
            int choice = (int) (order / PLACES[l] % CHOICES);
            return choice == NOBODY ? NONE : choice;
        }

        private static long keyIn(long score) {
            return (score + UNIT - 1) / UNIT;
        }

        long scoreOfAll() {
            load();
            fill(rest, NONE, NONE, NONE);
            return rest[allBuyers()];
        }

        /** The LEAST or the MOST price of a LOT. */
        int edgePrice(int l, int edge) {
            open(edge, l, l);
            return rulePrice(l, NONE, scoreAsTold());
        }

        /** Makes ready for what p may tell about LOT l. */
        void open(int byRule, int p, int l) {
            rule = byRule;
            liar = p;
            about = l;
            sideLot = NONE;
            load();
            fill(rest, l, NONE, NONE);
        }

        /** What the liar has to tell if it tells the truth. */
        int truth() {
            return isSeller() ? market.limits[about] : market.worthOf(liar - market.sellers, about);
        }

        /** What the liar gains by its true RESERVE, WORTH if it tells v. */
        int gainsIfTold(int v) {
            tell(v);
            long score = scoreAsTold();
            if (isSeller()) {
                int buyer = buyerIn(score, about);
                return buyer == NONE ? 0 : rulePrice(about, buyer, score) - market.limits[about];
            }
            int buyer = liar - market.sellers;
            int bought = lotOf(buyer, score);
            return bought == NONE ? 0 : market.worthOf(buyer, bought) - rulePrice(bought, buyer, score);
        }

        private boolean isSeller() {
            return liar < market.sellers;
        }

        private void tell(int v) {
            if (isSeller()) {
                reserves[about] = v;
                for (int b = 0; b < market.buyers; b++) {
                    putScore(b, about);
                }
            } else {
                int buyer = liar - market.sellers;
                worths[buyer * MOST_LOTS + about] = v;
                putScore(buyer, about);
            }
        }

        private int lotOf(int buyer, long score) {
            for (int l = 0; l < market.sellers; l++) {
                if (buyerIn(score, l) == buyer) {
                    return l;
                }
            }
            return NONE;
        }

        /** The price of a LOT by the rule, as all is told now; only halfway needs its BUYER. */
        private int rulePrice(int l, int buyer, long score) {
            switch (rule) {
                case LEAST: return reserves[l] + gainIn(scoreWithTwo(l)) - gainIn(score);
                case MOST: return reserves[l] + gainIn(score) - gainIn(scoreWithout(l));
                default: return buyer == NONE ? NONE : (worths[buyer * MOST_LOTS + l] + reserves[l]) / 2;
            }
        }

        private long scoreAsTold() {
            return withLot(rest, allBuyers(), about);
        }

        private long scoreWithout(int l) {
            if (l == about) {
                return rest[allBuyers()];
            }
            if (sideLot != l) {
                fill(side, about, l, NONE);
                sideLot = l;
            }
            return withLot(side, allBuyers(), about);
        }

        private long scoreWithTwo(int l) {
            if (l == about) {
                return withLotTwice(rest, l);
            }
            if (sideLot != l) {
                fill(side, about, NONE, l);
                sideLot = l;
            }
            return withLot(side, allBuyers(), about);
        }

        private void load() {
            System.arraycopy(market.limits, 0, reserves, 0, MOST_LOTS);
            System.arraycopy(market.worths, 0, worths, 0, MOST_BUYERS * MOST_LOTS);
            for (int b = 0; b < market.buyers; b++) {
                for (int l = 0; l < market.sellers; l++) {
                    putScore(b, l);
                }
            }
        }

        private void putScore(int b, int l) {
            int cell = b * MOST_LOTS + l;
            int profit = worths[cell] - reserves[l];
            scores[cell] = profit < 0 ? NEVER : (profit * COUNTS + 1) * UNIT - b * PLACES[l];
        }

        private int allBuyers() {
            return (1 << market.buyers) - 1;
        }

        /** All LOTS but two that are left out, one of them twice; NONE for any of these. */
        private void fill(long[] table, int without, int alsoWithout, int twice) {
            Arrays.fill(table, 0L);
            for (int l = 0; l < market.sellers; l++) {
                if (l != without && l != alsoWithout) {
                    addLot(table, l);
                }
            }
            if (twice != NONE) {
                addLot(table, twice);
            }
        }

        /** Greater SETS first: what a SET looks up in lesser ones is then still without this LOT. */
        private void addLot(long[] table, int l) {
            for (int set = allBuyers(); set >= 0; set--) {
                table[set] = withLot(table, set, l);
            }
        }

        /** The greatest score with one LOT more than the table has, for a SET of BUYERS. */
        private long withLot(long[] table, int set, int l) {
            long top = table[set] - NOBODY * PLACES[l];
            for (int b = 0; b < market.buyers; b++) {
                if ((set >> b & 1) == 1) {
                    long other = table[set - (1 << b)] + scores[b * MOST_LOTS + l];
                    top = other > top ? other : top;
                }
            }
            return top;
        }

        private long withLotTwice(long[] table, int l) {
            int set = allBuyers();
            long top = withLot(table, set, l) - NOBODY * PLACES[l];
            for (int b = 0; b < market.buyers; b++) {
                top = Math.max(top, withLot(table, set - (1 << b), l) + scores[b * MOST_LOTS + l]);
            }
            return top;
        }
    }

    /** What was SEEN, and the prices that fit it. */
    private static final class Watcher {
        int count;
        private final int[] lots = new int[MOST_SEEN];
        private final int[] signs = new int[MOST_SEEN];
        private final int[] slips = new int[MOST_SEEN];
        private final boolean[] doubles = new boolean[MOST_SEEN];

        void note(int l, int w, int e, boolean isDouble) {
            if (count < MOST_SEEN) {
                lots[count] = l;
                signs[count] = w;
                slips[count] = e;
                doubles[count] = isDouble;
                count++;
            }
        }

        boolean canBe(int l, int price) {
            for (int i = 0; i < count && i < MOST_SEEN; i++) {
                if (lots[i] == l && !isNear(i, price)) {
                    return false;
                }
            }
            return true;
        }

        private boolean isNear(int i, int price) {
            if (doubles[i] && price % 2 != 0) {
                return false;
            }
            int pressed = doubles[i] ? price / 2 : price;
            return Math.abs(signsOf(pressed) - signs[i]) <= slips[i];
        }

        int howMany(int l) {
            int found = 0;
            for (int price = 1; price <= TOP_PRICE; price++) {
                found += canBe(l, price) ? 1 : 0;
            }
            return found;
        }

        int least(int l) {
            for (int price = 1; price <= TOP_PRICE; price++) {
                if (canBe(l, price)) {
                    return price;
                }
            }
            return NONE;
        }

        int greatest(int l) {
            for (int price = TOP_PRICE; price >= 1; price--) {
                if (canBe(l, price)) {
                    return price;
                }
            }
            return NONE;
        }
    }

    /**
     * What LOTS can sum up to. The LOTS are halved, three and three: each SET of a half has a row of
     * bits, bit v for sum v, and a SET of all LOTS is looked up in two rows, which is far less to fill
     * than a row for each SET.
     */
    private static final class Sums {
        private static final int HALF = 3;
        private static final int HALF_SETS = 8;
        private static final int TOP_SUM = HALF * TOP_PRICE;
        private static final int WORDS = 47;
        /** Words that a sum of one price more can reach further. */
        private static final int WORDS_A_LOT = 16;

        private final Watcher watcher;
        private final long[] rows = new long[2 * HALF_SETS * WORDS];
        boolean stale = true;

        Sums(Watcher watcher) {
            this.watcher = watcher;
        }

        void refresh(int lots) {
            if (!stale) {
                return;
            }
            stale = false;
            Arrays.fill(rows, 0L);
            fillHalf(0, 0, Math.min(lots, HALF));
            fillHalf(HALF_SETS, HALF, Math.max(0, lots - HALF));
        }

        /** The rows of the LOTS from first on, each from the row of its SET without its last LOT. */
        private void fillHalf(int firstRow, int first, int lots) {
            rows[firstRow * WORDS] = 1L;
            for (int k = 0; k < lots && k < HALF; k++) {
                for (int price = 1; price <= TOP_PRICE; price++) {
                    if (watcher.canBe(first + k, price)) {
                        addPrice(firstRow, k, price);
                    }
                }
            }
        }

        /** For each SET of the LOTS ahead of k: what it sums up to comes, price further, to the SET with k. */
        private void addPrice(int firstRow, int k, int price) {
            for (int set = 0; set < 1 << k; set++) {
                int words = Math.max(1, Integer.bitCount(set) * WORDS_A_LOT);
                shiftInto(firstRow + set + (1 << k), firstRow + set, words, price);
            }
        }

        private void shiftInto(int toRow, int fromRow, int words, int shift) {
            int to = toRow * WORDS + shift / 64;
            int from = fromRow * WORDS;
            int end = toRow * WORDS + WORDS;
            int bits = shift % 64;
            for (int i = 0; i < words && to + i < end; i++) {
                rows[to + i] |= rows[from + i] << bits;
                if (bits > 0 && to + i + 1 < end) {
                    rows[to + i + 1] |= rows[from + i] >>> (64 - bits);
                }
            }
        }

        int setsFor(int s, int lots) {
            int found = 0;
            for (int set = 0; set < 1 << lots; set++) {
                found += canSum(set, s) ? 1 : 0;
            }
            return found;
        }

        int lotsInAll(int s, int lots) {
            // NONE has every bit, so it stays what it is if no SET fits
            int common = NONE;
            for (int set = 0; set < 1 << lots; set++) {
                if (canSum(set, s)) {
                    common &= set;
                }
            }
            return common;
        }

        private boolean canSum(int set, int s) {
            int low = set % HALF_SETS * WORDS;
            int high = (HALF_SETS + set / HALF_SETS) * WORDS;
            int most = Math.min(s, TOP_PRICE * Integer.bitCount(set % HALF_SETS));
            int least = Math.max(0, s - TOP_PRICE * Integer.bitCount(set / HALF_SETS));
            for (int sum = least; sum <= most; sum++) {
                if (hasBit(low, sum) && hasBit(high, s - sum)) {
                    return true;
                }
            }
            return false;
        }

        private boolean hasBit(int row, int sum) {
            return sum >= 0 && sum <= TOP_SUM && (rows[row + sum / 64] >>> (sum % 64) & 1L) == 1L;
        }
    }

    /** Whom all want to HOLD, and in how many BEATS they can. */
    private static final class Meetings {
        /** No pair waits longer than for five others of each side. */
        private static final int MOST_BEATS = 12;

        private final Market market;
        /** How many hands a PERSON has given in a BEAT. */
        private final int[] given = new int[MOST_PERSONS * MOST_BEATS];

        Meetings(Market market) {
            this.market = market;
        }

        private boolean isWanted(int seller, int buyer) {
            return market.limits[seller] <= market.worthOf(buyer, seller);
        }

        int byHands() {
            int most = 0;
            for (int s = 0; s < market.sellers; s++) {
                int count = 0;
                for (int b = 0; b < market.buyers; b++) {
                    count += isWanted(s, b) ? 1 : 0;
                }
                most = Math.max(most, beatsFor(count, s));
            }
            for (int b = 0; b < market.buyers; b++) {
                int count = 0;
                for (int s = 0; s < market.sellers; s++) {
                    count += isWanted(s, b) ? 1 : 0;
                }
                most = Math.max(most, beatsFor(count, market.sellers + b));
            }
            return most;
        }

        private int beatsFor(int count, int p) {
            int hands = Math.max(1, market.hands[p]);
            return (count + hands - 1) / hands;
        }

        int byOrder() {
            Arrays.fill(given, 0);
            int beats = 0;
            for (int s = 0; s < market.sellers; s++) {
                for (int b = 0; b < market.buyers; b++) {
                    if (isWanted(s, b)) {
                        beats = Math.max(beats, meet(s, market.sellers + b) + 1);
                    }
                }
            }
            return beats;
        }

        /** Gives a hand of each in the first BEAT in which both have one: that BEAT. */
        private int meet(int p, int q) {
            int t = 0;
            while (t < MOST_BEATS - 1 && !(hasHandIn(p, t) && hasHandIn(q, t))) {
                t++;
            }
            given[p * MOST_BEATS + t]++;
            given[q * MOST_BEATS + t]++;
            return t;
        }

        private boolean hasHandIn(int p, int t) {
            return given[p * MOST_BEATS + t] < market.hands[p];
        }
    }

    /** THE BOOK: written PRESSES, that bind nobody but one another. */
    private static final class Book {
        private final Market market;
        int count;
        private final int[] beats = new int[MOST_WRITTEN];
        private final int[] persons = new int[MOST_WRITTEN];
        private final int[] lots = new int[MOST_WRITTEN];
        private final int[] prices = new int[MOST_WRITTEN];

        Book(Market market) {
            this.market = market;
        }

        void append(int beat, int p, int l, int price) {
            if (count < MOST_WRITTEN) {
                beats[count] = beat;
                persons[count] = p;
                lots[count] = l;
                prices[count] = price;
                count++;
            }
        }

        int firstWrong() {
            for (int i = 0; i < count && i < MOST_WRITTEN; i++) {
                if (isWrong(i)) {
                    return i;
                }
            }
            return NONE;
        }

        private boolean isWrong(int i) {
            if (i > 0 && beats[i] < beats[i - 1]) {
                return true;
            }
            int bound = 0;
            for (int j = 0; j < i; j++) {
                if (persons[j] == persons[i] && beats[j] + market.binds > beats[i]) {
                    if (lots[j] == lots[i]) {
                        return true;
                    }
                    bound += prices[j];
                }
            }
            int p = persons[i];
            return market.hasPerson(p) && market.sortOf(p) == BUYER && prices[i] > market.limits[p] - bound;
        }
    }
}
