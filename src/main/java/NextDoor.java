/**
 * Shops with neighbours, errands among them, and prices by which all look to themselves.
 * The words in capitals are those of the document.
 */
public final class NextDoor {
    public static final int NONE = -1, BAD = -2, NO = -3, FULL = -4;

    private static final int MOST_SHOPS = 6;
    private static final int MOST_BUYERS = 6;
    private static final int MOST_BOUGHT = 12;
    private static final int MOST_BYTES = 200;
    private static final int MOST_TYPED = 8;
    private static final int MOST_PRICE = 20;
    private static final int MOST_MINUTES = 30;
    private static final int LAST_SHUT = 240;
    private static final int MOST_PURSE = 999;
    private static final int MOST_LIMIT = 99;
    private static final int MOST_MENDS = 2;
    private static final int MOST_ROUNDS = 8;
    private static final int IMAGES = 2;

    private static final int DEAR = 1, BACK = 2, SLOW = 3, KIND = 4, GRAND = 5;

    private static final int SOLD = 0;
    private static final int NOT_NEAR = 1, WAS_THERE = 2, TOO_FEW = 3;
    private static final int TOO_LATE = 4, TOO_MANY = 5, TOO_DEAR = 6;

    private static final int NOT_SO_MANY = -5;
    private static final int BAD_PLACE = -10;
    private static final int BAD_WORTH = -1000, NO_WORTH = -2000;
    private static final int FAULT_BASE = -10;
    private static final int NONE_CLOSED = 0;

    private final Street street = new Street();
    private final Street[] images = new Street[IMAGES];
    private final boolean[] kept = new boolean[IMAGES];
    private final Walk walk = new Walk(street);
    private final Search search = new Search(street, walk);
    private final RoadReader reader = new RoadReader(street);
    private final int[] refused = new int[3];
    private final int[] taken = new int[MOST_PRICE + 1];
    private final int[] pricesTold = new int[MOST_SHOPS];

    public NextDoor() {
        for (int i = 0; i < IMAGES; i++) {
            images[i] = new Street();
        }
    }

    // ---- shops, roads

    public int shop(int kind, int price, int minutes, int shut) {
        if (!isIn(kind, 0, GRAND) || !isIn(price, 0, MOST_PRICE)
                || !isIn(minutes, 1, MOST_MINUTES) || !isIn(shut, 0, LAST_SHUT)) {
            return refuse(BAD, BAD);
        }
        if (street.shops >= MOST_SHOPS) {
            return refuse(FULL, FULL);
        }
        street.addShop(kind, price, minutes, shut);
        return street.shops - 1;
    }

    public int next(int a, int b, boolean is) {
        if (!street.hasShop(a) || !street.hasShop(b) || a == b) {
            return refuse(BAD, BAD);
        }
        if (street.areNear(a, b) == is) {
            return refuse(NO, NO);
        }
        street.setNear(a, b, is);
        return 1;
    }

    public int free(int shop, boolean is) {
        if (!street.hasShop(shop)) {
            return refuse(BAD, BAD);
        }
        if (street.isFree(shop) == is) {
            return refuse(NO, NO);
        }
        street.setFree(shop, is);
        return 1;
    }

    public int put(int what, int v) {
        if (what == 0 && isIn(v, 0, MOST_PURSE)) {
            int was = street.purse;
            street.purse = v;
            return was;
        }
        if (what == 1 && isIn(v, 1, MOST_SHOPS)) {
            int was = street.arms;
            street.arms = v;
            return was;
        }
        return refuse(BAD, BAD);
    }

    public int price(int shop, int v) {
        if (!street.hasShop(shop) || !isIn(v, 0, MOST_PRICE)) {
            return refuse(BAD, BAD);
        }
        int was = street.price[shop];
        street.price[shop] = v;
        return was;
    }

    public int type(long v, int n) {
        if (!isIn(n, 1, MOST_TYPED)) {
            return refuse(BAD, BAD);
        }
        if (street.length + n > MOST_BYTES) {
            return refuse(FULL, FULL);
        }
        for (int i = n - 1; i >= 0; i--) {
            street.text[street.length] = (int) (v >>> (8 * i)) & 255;
            street.length++;
        }
        return street.length;
    }

    public int clear() {
        int had = street.length;
        street.length = 0;
        return had;
    }

    public int read() {
        int items = reader.readRoad();
        if (reader.fault != NONE) {
            return FAULT_BASE - reader.fault;
        }
        street.takeShopsOf(reader.draft);
        return items;
    }

    public int errand(int what) {
        if (!isIn(what, 0, 3)) {
            return refuse(BAD, BAD);
        }
        int why = walk.goErrand();
        int place = walk.gone;
        switch (what) {
            case 0:
                return why == SOLD ? NONE : 10 * place + why;
            case 1:
                return walk.paidAt[place];
            case 2:
                return walk.minuteAt[place];
            default:
                return walk.heldAt[place];
        }
    }

    // ---- wants

    public int cheapest(int wants, int what) {
        if (!areGoods(wants) || !isIn(what, 0, 2)) {
            return refuse(BAD, BAD);
        }
        if (!search.findCheapest(wants, street.purse, NONE_CLOSED)) {
            return NONE;
        }
        if (what == 0) {
            return search.paid;
        }
        return what == 1 ? search.length : search.minute;
    }

    public int row(int wants, int i) {
        if (!areGoods(wants) || i < 0) {
            return refuse(BAD, BAD_PLACE);
        }
        if (!search.findCheapest(wants, street.purse, NONE_CLOSED) || i >= search.length) {
            return NOT_SO_MANY;
        }
        return search.row[i];
    }

    public int soonest(int wants) {
        if (!areGoods(wants)) {
            return refuse(BAD, BAD);
        }
        return search.findSoonest(wants) ? search.minute : NONE;
    }

    public int worth(int wants, int shop) {
        if (!areGoods(wants) || !street.hasShop(shop) || street.isFree(shop)) {
            return refuse(BAD, BAD_WORTH);
        }
        if (!search.findCheapest(wants, street.purse, NONE_CLOSED)) {
            return refuse(NO, NO_WORTH);
        }
        int paidNow = search.paid;
        street.setFree(shop, true);
        boolean isThen = search.findCheapest(wants, street.purse, NONE_CLOSED);
        street.setFree(shop, false);
        return isThen ? paidNow - search.paid : refuse(NO, NO_WORTH);
    }

    public int shutOut(int shop) {
        if (!street.hasShop(shop)) {
            return refuse(BAD, BAD);
        }
        return search.goodsToHave(NONE_CLOSED) & ~search.goodsToHave(1 << shop);
    }

    public int mends(int shop) {
        if (!street.hasShop(shop)) {
            return refuse(BAD, BAD);
        }
        int due = search.goodsToHave(NONE_CLOSED) & ~(1 << shop);
        for (int more = 0; more <= MOST_MENDS; more++) {
            if (areMended(due, shop, more, 0)) {
                return more;
            }
        }
        return NONE;
    }

    // ---- prices, what was wanted

    public int buyer(int want, int limit) {
        if (!street.hasShop(want) || !isIn(limit, 0, MOST_LIMIT)) {
            return refuse(BAD, BAD);
        }
        if (street.buyers >= MOST_BUYERS) {
            return refuse(FULL, FULL);
        }
        street.want[street.buyers] = want;
        street.limit[street.buyers] = limit;
        street.buyers++;
        return street.buyers - 1;
    }

    public int leave() {
        int were = street.buyers;
        street.buyers = 0;
        return were;
    }

    public int takes(int shop) {
        if (!street.hasShop(shop)) {
            return refuse(BAD, BAD);
        }
        return takenBy(shop);
    }

    public int asks(int shop) {
        if (!street.hasShop(shop)) {
            return refuse(BAD, BAD);
        }
        return bestPrice(shop);
    }

    public int changes(int shop) {
        if (shop != NONE && !street.hasShop(shop)) {
            return refuse(BAD, BAD);
        }
        System.arraycopy(street.price, 0, pricesTold, 0, MOST_SHOPS);
        int rounds = 0;
        boolean changed = true;
        while (changed && rounds < MOST_ROUNDS) {
            changed = roundChanges();
            rounds++;
        }
        int priceThen = shop == NONE ? NONE : street.price[shop];
        System.arraycopy(pricesTold, 0, street.price, 0, MOST_SHOPS);
        if (changed) {
            return NONE;
        }
        return shop == NONE ? rounds : priceThen;
    }

    public int wanted(int i) {
        if (i < NONE) {
            return refuse(BAD, BAD_PLACE);
        }
        boolean mayBe = walk.goErrand() == SOLD;
        int held = walk.heldAt[walk.gone];
        int many = 0;
        for (int wants = 0; wants <= held && mayBe; wants++) {
            // What THE ERRAND does not bring can't have been wanted of it.
            if ((wants & ~held) == 0 && isErrandFor(wants)) {
                if (many == i) {
                    return wants;
                }
                many++;
            }
        }
        return i == NONE ? many : NOT_SO_MANY;
    }

    // ---- what there is

    public int image(int i) {
        if (!isIn(i, 0, IMAGES - 1)) {
            return refuse(BAD, BAD);
        }
        images[i].takeAllOf(street);
        kept[i] = true;
        return 1;
    }

    public int from(int i) {
        if (!isIn(i, 0, IMAGES - 1)) {
            return refuse(BAD, BAD);
        }
        if (!kept[i]) {
            return refuse(NO, NO);
        }
        street.takeAllOf(images[i]);
        return 1;
    }

    public int status(int what) {
        return isIn(what, 0, 2) ? refused[what] : refuse(BAD, NONE);
    }

    public int count(int what) {
        return isIn(what, 0, 3) ? street.howMany(what) : refuse(BAD, BAD);
    }

    public long digest() {
        long h = 647;
        for (int what = 0; what <= 3; what++) {
            h = 31 * h + street.howMany(what);
        }
        for (int shop = 0; shop < street.shops; shop++) {
            h = 31 * h + street.kind[shop];
            h = 31 * h + street.price[shop];
            h = 31 * h + street.minutes[shop];
            h = 31 * h + street.shut[shop];
            h = 31 * h + street.near[shop];
        }
        h = 31 * h + street.freeOnes;
        h = 31 * h + street.purse;
        h = 31 * h + street.arms;
        for (int place = 0; place < street.bought; place++) {
            h = 31 * h + street.errand[place];
        }
        for (int at = 0; at < street.length; at++) {
            h = 31 * h + street.text[at];
        }
        for (int one = 0; one < street.buyers; one++) {
            h = 31 * h + street.want[one];
            h = 31 * h + street.limit[one];
        }
        return h;
    }

    // ---- what the calls share

    private static boolean isIn(int v, int least, int most) {
        return v >= least && v <= most;
    }

    private boolean areGoods(int wants) {
        return isIn(wants, 0, (1 << street.shops) - 1);
    }

    /** Some calls answer another number than the reason that STATUS counts. */
    private int refuse(int reason, int answer) {
        int place = BAD - reason;
        if (isIn(place, 0, 2)) {
            refused[place]++;
        }
        return answer;
    }

    /** Whether so many new NEIGHBOURS more, none of them ahead of that pair, bring all that is due. */
    private boolean areMended(int due, int shut, int more, int fromPair) {
        if (more <= 0) {
            return search.canHaveAll(due, 1 << shut);
        }
        boolean are = false;
        for (int pair = fromPair; pair < MOST_SHOPS * MOST_SHOPS && !are; pair++) {
            int a = pair / MOST_SHOPS;
            int b = pair % MOST_SHOPS;
            // A neighbour more of the SHOP that is shut brings nobody anywhere.
            boolean isNew = a < b && b < street.shops && a != shut && b != shut && !street.areNear(a, b);
            if (isNew) {
                street.setNear(a, b, true);
                are = areMended(due, shut, more - 1, pair + 1);
                street.setNear(a, b, false);
            }
        }
        return are;
    }

    private int takenBy(int shop) {
        int sum = 0;
        for (int one = 0; one < street.buyers; one++) {
            // Whose CHEAPEST is above LIMIT stays away: none within LIMIT is found then.
            int most = Math.min(street.limit[one], street.purse);
            if (search.findCheapest(1 << street.want[one], most, NONE_CLOSED)) {
                sum += search.paidTo(shop);
            }
        }
        return sum;
    }

    /** Leaves in the row of what is taken an entry for each PRICE. */
    private int bestPrice(int shop) {
        int told = street.price[shop];
        int best = 0;
        for (int v = 0; v <= MOST_PRICE; v++) {
            street.price[shop] = v;
            taken[v] = takenBy(shop);
            if (taken[v] > taken[best]) {
                best = v;
            }
        }
        street.price[shop] = told;
        return best;
    }

    private boolean roundChanges() {
        boolean changed = false;
        for (int shop = 0; shop < street.shops; shop++) {
            int best = bestPrice(shop);
            if (taken[best] > taken[street.price[shop]]) {
                street.price[shop] = best;
                changed = true;
            }
        }
        return changed;
    }

    private boolean isErrandFor(int wants) {
        if (!search.findCheapest(wants, street.purse, NONE_CLOSED) || search.length != street.bought) {
            return false;
        }
        for (int i = 0; i < search.length; i++) {
            if (search.row[i] != street.errand[i]) {
                return false;
            }
        }
        return true;
    }

    /** All that an IMAGE keeps, and what the KINDS do. */
    private static final class Street {
        int shops;
        final int[] kind = new int[MOST_SHOPS];
        final int[] price = new int[MOST_SHOPS];
        final int[] minutes = new int[MOST_SHOPS];
        final int[] shut = new int[MOST_SHOPS];
        final int[] near = new int[MOST_SHOPS];
        int freeOnes;
        int purse = MOST_PURSE;
        int arms = MOST_SHOPS;
        int bought;
        final int[] errand = new int[MOST_BOUGHT];
        int length;
        final int[] text = new int[MOST_BYTES];
        int buyers;
        final int[] want = new int[MOST_BUYERS];
        final int[] limit = new int[MOST_BUYERS];

        boolean hasShop(int shop) {
            return shop >= 0 && shop < shops;
        }

        boolean areNear(int a, int b) {
            return (near[a] >> b & 1) != 0;
        }

        boolean isFree(int shop) {
            return (freeOnes >> shop & 1) != 0;
        }

        int howMany(int what) {
            switch (what) {
                case 0:
                    return shops;
                case 1:
                    return bought;
                case 2:
                    return length;
                default:
                    return buyers;
            }
        }

        void addShop(int kindTold, int priceTold, int minutesTold, int shutTold) {
            if (shops < MOST_SHOPS) {
                kind[shops] = kindTold;
                price[shops] = priceTold;
                minutes[shops] = minutesTold;
                shut[shops] = shutTold;
                near[shops] = 0;
                shops++;
            }
        }

        void addBought(int shop) {
            if (bought < MOST_BOUGHT) {
                errand[bought] = shop;
                bought++;
            }
        }

        void setNear(int a, int b, boolean is) {
            near[a] = is ? near[a] | 1 << b : near[a] & ~(1 << b);
            near[b] = is ? near[b] | 1 << a : near[b] & ~(1 << a);
        }

        void setFree(int shop, boolean is) {
            freeOnes = is ? freeOnes | 1 << shop : freeOnes & ~(1 << shop);
        }

        void forgetShops() {
            shops = 0;
            freeOnes = 0;
            bought = 0;
        }

        void takeShopsOf(Street other) {
            shops = other.shops;
            System.arraycopy(other.kind, 0, kind, 0, MOST_SHOPS);
            System.arraycopy(other.price, 0, price, 0, MOST_SHOPS);
            System.arraycopy(other.minutes, 0, minutes, 0, MOST_SHOPS);
            System.arraycopy(other.shut, 0, shut, 0, MOST_SHOPS);
            System.arraycopy(other.near, 0, near, 0, MOST_SHOPS);
            freeOnes = other.freeOnes;
            bought = other.bought;
            System.arraycopy(other.errand, 0, errand, 0, MOST_BOUGHT);
        }

        void takeAllOf(Street other) {
            takeShopsOf(other);
            purse = other.purse;
            arms = other.arms;
            length = other.length;
            System.arraycopy(other.text, 0, text, 0, MOST_BYTES);
            buyers = other.buyers;
            System.arraycopy(other.want, 0, want, 0, MOST_BUYERS);
            System.arraycopy(other.limit, 0, limit, 0, MOST_BUYERS);
        }

        /** The GOOD that is taken back of who holds these, or NONE; KIND stands under BACK. */
        int goodTaken(int shop, int held) {
            if (kind[shop] != BACK && kind[shop] != KIND) {
                return NONE;
            }
            int ahead = shop > 0 ? shop - 1 : shops - 1;
            return (held & 1 << ahead) != 0 ? ahead : NONE;
        }

        /** SLOW and GRAND stand under DEAR. */
        int asked(int shop, int many, int goodTaken) {
            if (kind[shop] == KIND && many == 0) {
                return 0;
            }
            int asked = price[shop];
            if (kind[shop] == DEAR || kind[shop] == SLOW || kind[shop] == GRAND) {
                asked += many;
            }
            if (goodTaken != NONE) {
                asked -= price[goodTaken] / 2;
            }
            return asked < 0 ? 0 : asked;
        }

        int minutesTaken(int shop) {
            return kind[shop] == SLOW ? 2 * minutes[shop] : minutes[shop];
        }

        boolean sellsTo(int shop, int many) {
            return kind[shop] != GRAND || many >= 2;
        }
    }

    /** A row of SHOPS that is gone step by step; level 0 is who has not begun, and stays as it is. */
    private static final class Walk {
        final Street street;
        final int[] shopAt = new int[MOST_SHOPS];
        final int[] beenAt = new int[MOST_SHOPS + 1];
        final int[] heldAt = new int[MOST_SHOPS + 1];
        final int[] minuteAt = new int[MOST_SHOPS + 1];
        final int[] paidAt = new int[MOST_SHOPS + 1];
        int gone;

        Walk(Street street) {
            this.street = street;
        }

        /** Goes THE ERRAND as far as it may be: why it ended, and in gone how many SHOPS sold. */
        int goErrand() {
            gone = 0;
            for (int place = 0; place < street.bought; place++) {
                int why = step(gone, street.errand[place]);
                if (why != SOLD) {
                    return why;
                }
                gone++;
            }
            return SOLD;
        }

        /** Buys at a SHOP behind so many others, or tells why not. */
        int step(int level, int shop) {
            if ((waysOn(level) >> shop & 1) == 0) {
                return NOT_NEAR;
            }
            // Behind all SHOPS there is none where one has not been.
            if (level >= MOST_SHOPS || (beenAt[level] >> shop & 1) != 0) {
                return WAS_THERE;
            }
            int held = heldAt[level];
            int many = Integer.bitCount(held);
            if (!street.sellsTo(shop, many)) {
                return TOO_FEW;
            }
            int minute = minuteAt[level] + street.minutesTaken(shop);
            if (minute > street.shut[shop]) {
                return TOO_LATE;
            }
            int taken = street.goodTaken(shop, held);
            int left = taken == NONE ? held : held & ~(1 << taken);
            if (Integer.bitCount(left) >= street.arms) {
                return TOO_MANY;
            }
            int paid = paidAt[level] + street.asked(shop, many, taken);
            if (paid > street.purse) {
                return TOO_DEAR;
            }
            shopAt[level] = shop;
            beenAt[level + 1] = beenAt[level] | 1 << shop;
            heldAt[level + 1] = left | 1 << shop;
            minuteAt[level + 1] = minute;
            paidAt[level + 1] = paid;
            return SOLD;
        }

        /** The SHOPS that may come then, as bits, those where one was among them. */
        int waysOn(int level) {
            return level <= 0 ? street.freeOnes : street.near[shopAt[level - 1]];
        }
    }

    /** Looks through all ERRANDS for the best one that brings what is wanted. */
    private static final class Search {
        final Street street;
        final Walk walk;
        private int wants;
        private int closed;
        private boolean byMinute;
        private boolean found;
        private int bestScore;
        int length;
        int paid;
        int minute;
        final int[] row = new int[MOST_SHOPS];
        final int[] paidThere = new int[MOST_SHOPS];

        Search(Street street, Walk walk) {
            this.street = street;
            this.walk = walk;
        }

        boolean findCheapest(int wantsTold, int mostPaid, int closedOnes) {
            byMinute = false;
            closed = closedOnes;
            expect(wantsTold, mostPaid);
            goOn(0);
            return found;
        }

        boolean findSoonest(int wantsTold) {
            byMinute = true;
            closed = NONE_CLOSED;
            expect(wantsTold, LAST_SHUT);
            goOn(0);
            return found;
        }

        /** The GOODS that some ERRAND brings, each for itself, while the closed SHOPS sell to nobody. */
        int goodsToHave(int closedOnes) {
            int goods = 0;
            for (int shop = 0; shop < street.shops; shop++) {
                if (findCheapest(1 << shop, street.purse, closedOnes)) {
                    goods |= 1 << shop;
                }
            }
            return goods;
        }

        boolean canHaveAll(int goods, int closedOnes) {
            for (int shop = 0; shop < street.shops; shop++) {
                boolean isDue = (goods >> shop & 1) != 0;
                if (isDue && !findCheapest(1 << shop, street.purse, closedOnes)) {
                    return false;
                }
            }
            return true;
        }

        int paidTo(int shop) {
            for (int i = 0; i < length && i < MOST_SHOPS; i++) {
                if (row[i] == shop) {
                    return paidThere[i];
                }
            }
            return 0;
        }

        /** At first the best is a row that any other one of that score goes ahead of. */
        private void expect(int wantsTold, int worstScore) {
            wants = wantsTold;
            found = false;
            bestScore = worstScore;
            length = MOST_SHOPS + 1;
        }

        /**
         * SHOPS are tried by number, so that of rows alike in score and length the first is kept;
         * a step more never lowers the score, so that nothing behind a worse row is looked at.
         */
        private void goOn(int level) {
            if (level > MOST_SHOPS || !isBetter(level)) {
                return;
            }
            if ((walk.heldAt[level] & wants) == wants) {
                keep(level);
                return;
            }
            int open = walk.waysOn(level) & ~walk.beenAt[level] & ~closed;
            for (int shop = 0; shop < street.shops; shop++) {
                if ((open >> shop & 1) != 0 && walk.step(level, shop) == SOLD) {
                    goOn(level + 1);
                }
            }
        }

        private int score(int level) {
            return byMinute ? walk.minuteAt[level] : walk.paidAt[level];
        }

        private boolean isBetter(int level) {
            int score = score(level);
            return score < bestScore || score == bestScore && level < length;
        }

        private void keep(int level) {
            found = true;
            bestScore = score(level);
            length = level;
            paid = walk.paidAt[level];
            minute = walk.minuteAt[level];
            for (int i = 0; i < level; i++) {
                row[i] = walk.shopAt[i];
                paidThere[i] = walk.paidAt[i + 1] - walk.paidAt[i];
            }
        }
    }

    /** Reads THE ROAD into a draft, which counts only if no FAULT was found. */
    private static final class RoadReader {
        private static final int END = 0, WORD = 1, NUMBER = 2, STOP = 3, NOTHING = 4;
        private static final int MOST_FIGURES = 3;

        final Street draft = new Street();
        int fault = NONE;
        private final Street road;
        private final int[] text;
        private int length;
        private int at;
        private int token;
        private int start;
        private int number;

        RoadReader(Street road) {
            this.road = road;
            this.text = road.text;
        }

        /** How many ITEMS; fault is NONE, or the place of the FAULT. */
        int readRoad() {
            length = Math.min(road.length, MOST_BYTES);
            at = 0;
            fault = NONE;
            draft.forgetShops();
            goToToken();
            int items = 0;
            while (token != END && fault == NONE && items < MOST_BYTES) {
                readItem();
                items++;
            }
            return items;
        }

        private void readItem() {
            if (isWord("shop") && draft.shops < MOST_SHOPS) {
                readShop();
            } else if (isWord("next")) {
                readNext();
            } else if (isWord("free")) {
                readFree();
            } else if (isWord("buy") && draft.bought < MOST_BOUGHT) {
                readBuy();
            } else {
                fail();
            }
        }

        private void readShop() {
            goToToken();
            int kind = takeNumber(0, GRAND);
            int price = takeNumber(0, MOST_PRICE);
            int minutes = takeNumber(1, MOST_MINUTES);
            int shut = takeNumber(0, LAST_SHUT);
            if (takeStop()) {
                draft.addShop(kind, price, minutes, shut);
            }
        }

        private void readNext() {
            goToToken();
            int a = takeNumber(0, draft.shops - 1);
            int startOfB = start;
            int b = takeNumber(0, draft.shops - 1);
            // Each may stand alone: it is the second that can not stand behind the first.
            if (fault == NONE && (a == b || draft.areNear(a, b))) {
                fault = startOfB;
            }
            if (takeStop()) {
                draft.setNear(a, b, true);
            }
        }

        private void readFree() {
            goToToken();
            int shop = takeNumber(0, draft.shops - 1);
            if (takeStop()) {
                draft.setFree(shop, true);
            }
        }

        private void readBuy() {
            goToToken();
            int shop = takeNumber(0, draft.shops - 1);
            if (takeStop()) {
                draft.addBought(shop);
            }
        }

        /** The first FAULT is the one that counts. */
        private void fail() {
            if (fault == NONE) {
                fault = start;
            }
        }

        private int takeNumber(int least, int most) {
            if (fault != NONE || token != NUMBER || !isIn(number, least, most)) {
                fail();
                return 0;
            }
            int taken = number;
            goToToken();
            return taken;
        }

        private boolean takeStop() {
            if (fault != NONE || token != STOP) {
                fail();
                return false;
            }
            goToToken();
            return true;
        }

        private boolean isWord(String word) {
            if (token != WORD || at - start != word.length()) {
                return false;
            }
            for (int i = 0; i < word.length(); i++) {
                if (text[start + i] != word.charAt(i)) {
                    return false;
                }
            }
            return true;
        }

        private static boolean isLetter(int sign) {
            return sign >= 'a' && sign <= 'z';
        }

        private static boolean isFigure(int sign) {
            return sign >= '0' && sign <= '9';
        }

        private void goToToken() {
            while (at < length && text[at] == ' ') {
                at++;
            }
            start = at;
            if (at >= length) {
                token = END;
            } else if (isLetter(text[at])) {
                token = WORD;
                while (at < length && isLetter(text[at])) {
                    at++;
                }
            } else if (isFigure(text[at])) {
                token = NUMBER;
                number = 0;
                while (at < length && isFigure(text[at])) {
                    // A number of too many figures is one that can stand nowhere.
                    number = at - start < MOST_FIGURES ? 10 * number + text[at] - '0' : NONE;
                    at++;
                }
            } else {
                token = text[at] == ';' ? STOP : NOTHING;
                at++;
            }
        }
    }
}
