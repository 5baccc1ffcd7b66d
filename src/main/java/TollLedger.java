import java.util.ArrayList;
import java.util.Arrays;

/**
 * A ledger of accounts that hold its own coin, owe one another money over lines, keep offers in
 * books, and pay by way of these books.
 */
public final class TollLedger {
    public static final int BAD = -1;
    public static final int NOBODY = -2;
    public static final int EARLY = -3;
    public static final int LATE = -4;
    public static final int POOR = -5;
    public static final int NO_OTHER = 21;
    public static final int SHORT = 22;
    public static final int RESERVE = 23;
    public static final int DRY = 24;
    public static final int KILLED = 25;
    public static final int NONE = 26;
    public static final int TIME = 27;

    private static final int DONE = 0;
    private static final int ABSENT = -1;
    private static final int COIN = 0;
    private static final int ACCOUNTS = 6;
    private static final int ASSETS = 13;
    private static final int CURRENCIES = 2;
    private static final int MOST_OFFERS = 12;
    private static final int MOST_DEPOSITS = 6;
    private static final int MILLION = 1000000;
    private static final int HUNDRED_THOUSAND = 100000;
    private static final int FEE = 10;
    private static final int BASE_RESERVE = 100;
    private static final int PIECE_RESERVE = 20;
    private static final int LEAST_FIRST_SENDING = 100;
    private static final int MOST_RATE = 200;
    private static final int MOST_PAYMENT = 400;
    private static final int MOST_TICK = 1000;
    private static final int ISSUER_FUNDS = 1000000000;
    private static final int QUIET_MARK = 1000000;
    private static final int KEPT = 0;
    private static final int AT_ONCE = 1;
    private static final int WHOLE = 2;

    private final State state;
    private final Taking taking;
    private final Leaves leaves;
    private int signer;
    private int signedNumber;
    private int spendAsset;
    private int spendMax;
    private boolean spendPartial;
    private int clock;
    private int burntCoins;

    public TollLedger() {
        state = new State();
        taking = new Taking(state);
        leaves = new Leaves();
        signer = ABSENT;
        spendAsset = COIN;
        spendMax = MILLION;
    }

    public boolean by(int a, int number) {
        if (!isAccount(a) || !isWithin(number, 1, MILLION)) {
            return false;
        }
        signer = a;
        signedNumber = number;
        return true;
    }

    public int send(int b, int v) {
        int refusal = charge(isOther(b) && isWithin(v, 1, MILLION));
        if (refusal != DONE) {
            return refusal;
        }
        Account other = state.accounts[b];
        if (!other.exists && v < LEAST_FIRST_SENDING) {
            return NO_OTHER;
        }
        if (state.fundsOf(signer, COIN) < v) {
            return SHORT;
        }
        other.exists = true;
        state.change(signer, COIN, -v);
        state.change(b, COIN, v);
        return DONE;
    }

    public int trust(int b, int currency, int limit, boolean quiet) {
        int refusal = charge(isOther(b) && isCurrency(currency)
                && isWithin(limit, 0, HUNDRED_THOUSAND));
        if (refusal != DONE) {
            return refusal;
        }
        if (!state.accounts[b].exists) {
            return NO_OTHER;
        }
        int side = Lines.side(signer, b, currency);
        boolean oneMore = limit > 0 && !state.lines.isPiece(side);
        if (oneMore && !state.affordsOneMore(signer, 0)) {
            return RESERVE;
        }
        state.lines.limits[side] = limit;
        state.lines.quiets[side] = quiet;
        return DONE;
    }

    public int rate(int r) {
        int refusal = charge(isWithin(r, 0, MOST_RATE));
        if (refusal != DONE) {
            return refusal;
        }
        state.accounts[signer].rate = r;
        return DONE;
    }

    public boolean spend(int s, int max, boolean partial) {
        if (!isAsset(s) || !isWithin(max, 1, MILLION)) {
            return false;
        }
        spendAsset = s;
        spendMax = max;
        spendPartial = partial;
        return true;
    }

    public int pay(int b, int k, int v) {
        int refusal = charge(isOther(b) && isAsset(k) && k != COIN && isWithin(v, 1, MOST_PAYMENT));
        if (refusal != DONE) {
            return refusal;
        }
        if (!state.accounts[b].exists) {
            return NO_OTHER;
        }
        taking.open(signer, spendAsset, k);
        int purse = Math.min(spendMax, state.fundsOf(signer, spendAsset));
        int d = spendPartial ? greatestDelivery(b, k, v, purse) : v;
        // Planned anew for the d that was found: the search may have ended on another plan.
        int spending = d > 0 ? spendingFor(b, k, d, purse) : ABSENT;
        if (spending == ABSENT) {
            return DRY;
        }
        if (spendAsset != k) {
            taking.carryOut();
        }
        state.change(signer, spendAsset, -spending);
        state.change(b, k, d);
        return DONE;
    }

    public int offer(int wants, int w, int gives, int g, int kind) {
        int refusal = charge(isAsset(wants) && isAsset(gives) && wants != gives
                && isWithin(w, 1, HUNDRED_THOUSAND) && isWithin(g, 1, HUNDRED_THOUSAND)
                && isWithin(kind, KEPT, WHOLE));
        if (refusal != DONE) {
            return refusal;
        }
        int purse = state.fundsOf(signer, gives);
        if (purse == 0) {
            return SHORT;
        }
        taking.open(signer, gives, wants);
        taking.planCrossing(w, g, purse);
        if ((kind == WHOLE && taking.taken < w) || (kind == AT_ONCE && taking.taken == 0)) {
            return KILLED;
        }
        if (taking.taken == 0 && !canPlace(taking.countUnfunded())) {
            return RESERVE;
        }
        taking.carryOut();
        state.change(signer, gives, -taking.cost);
        state.change(signer, wants, taking.taken);
        int restW = w - taking.taken;
        int restG = g - taking.price;
        if (kind == KEPT && restW > 0 && restG > 0 && canPlace(0)) {
            state.addOffer(signer, wants, restW, gives, restG);
        }
        return DONE;
    }

    public int cancel(int id) {
        int refusal = charge(id >= 1);
        if (refusal != DONE) {
            return refusal;
        }
        int place = state.placeOfOffer(id);
        if (place == ABSENT || state.offers.get(place).owner != signer) {
            return NONE;
        }
        state.offers.remove(place);
        return DONE;
    }

    public int deposit(int b, int v, int after, int until) {
        int refusal = charge(isOther(b) && isWithin(v, 1, MILLION)
                && 0 <= after && after < until && until <= HUNDRED_THOUSAND);
        if (refusal != DONE) {
            return refusal;
        }
        if (!state.accounts[b].exists) {
            return NO_OTHER;
        }
        if (state.deposits.size() >= MOST_DEPOSITS) {
            return RESERVE;
        }
        if (!state.affordsOneMore(signer, v)) {
            return SHORT;
        }
        state.change(signer, COIN, -v);
        state.addDeposit(signer, b, v, after, until);
        return DONE;
    }

    public int settle(int id) {
        int refusal = charge(id >= 1);
        if (refusal != DONE) {
            return refusal;
        }
        int place = state.placeOfDeposit(id);
        if (place == ABSENT) {
            return NONE;
        }
        Deposit deposit = state.deposits.get(place);
        if (clock < deposit.after) {
            return TIME;
        }
        state.change(clock < deposit.until ? deposit.to : deposit.from, COIN, deposit.coins);
        state.deposits.remove(place);
        return DONE;
    }

    public int tick(int n) {
        if (isWithin(n, 0, MOST_TICK)) {
            clock += n;
        }
        return clock;
    }

    public int account(int a, int what) {
        if (!isAccount(a) || !state.accounts[a].exists) {
            return ABSENT;
        }
        switch (what) {
            case 0:
                return state.accounts[a].coins;
            case 1:
                return state.accounts[a].number;
            case 2:
                return state.accounts[a].rate;
            case 3:
                return state.piecesOf(a);
            default:
                return ABSENT;
        }
    }

    public int balance(int a, int b, int currency) {
        return isLine(a, b, currency) ? state.lines.balances[Lines.side(a, b, currency)] : 0;
    }

    public int limit(int a, int b, int currency) {
        if (!isLine(a, b, currency)) {
            return 0;
        }
        int side = Lines.side(a, b, currency);
        return state.lines.limits[side] + (state.lines.quiets[side] ? QUIET_MARK : 0);
    }

    public int funds(int a, int k) {
        if (!isAccount(a) || !state.accounts[a].exists || !isAsset(k)) {
            return ABSENT;
        }
        return state.fundsOf(a, k);
    }

    public int book(int x, int k, int n) {
        if (!isAsset(x) || !isAsset(k)) {
            return ABSENT;
        }
        taking.book.gather(state.offers, x, k, ABSENT);
        if (n == -1) {
            return taking.book.size;
        }
        return isWithin(n, 0, taking.book.size - 1) ? taking.book.row[n].id : ABSENT;
    }

    public int offerOf(int id, int what) {
        int place = state.placeOfOffer(id);
        if (place == ABSENT) {
            return ABSENT;
        }
        Offer offer = state.offers.get(place);
        switch (what) {
            case 0:
                return offer.w;
            case 1:
                return offer.g;
            case 2:
                return offer.owner;
            default:
                return ABSENT;
        }
    }

    public int depositOf(int id) {
        int place = state.placeOfDeposit(id);
        return place == ABSENT ? ABSENT : state.deposits.get(place).coins;
    }

    public int burnt() {
        return burntCoins;
    }

    public int root() {
        leaves.fill(state);
        return leaves.fold();
    }

    /** Refuses the transaction (BAD if its own numbers are not good), or burns its fee: DONE. */
    private int charge(boolean good) {
        if (!good || signer == ABSENT) {
            return BAD;
        }
        Account account = state.accounts[signer];
        if (!account.exists) {
            return NOBODY;
        }
        if (signedNumber > account.number) {
            return EARLY;
        }
        if (signedNumber < account.number) {
            return LATE;
        }
        if (account.coins < FEE) {
            return POOR;
        }
        account.coins -= FEE;
        account.number++;
        burntCoins += FEE;
        return DONE;
    }

    /**
     * The greatest of 1 .. v that works, or 0. What works for d works for every lesser d: it asks
     * less of the limit, takes a beginning of the same taking and costs no more; so halving steps
     * find it.
     */
    private int greatestDelivery(int b, int k, int v, int purse) {
        int d = 0;
        for (int step = 256; step > 0; step /= 2) {
            if (d + step <= v && spendingFor(b, k, d + step, purse) != ABSENT) {
                d += step;
            }
        }
        return d;
    }

    /** The spending with which d of k is paid to b out of the purse; ABSENT if d does not work. */
    private int spendingFor(int b, int k, int d, int purse) {
        int issuer = issuerOf(k);
        if (b != issuer && !state.lines.hasRoom(Lines.side(b, issuer, currencyOf(k)), d)) {
            return ABSENT;
        }
        int n = state.costOf(d, k, signer, b);
        if (spendAsset == k) {
            return isHushed(k, b) || n > purse ? ABSENT : n;
        }
        taking.planAll(n);
        return taking.taken < n || taking.cost > purse ? ABSENT : taking.cost;
    }

    /** No line leads from an account to itself, so this never holds if one side is the issuer. */
    private boolean isHushed(int k, int b) {
        int issuer = issuerOf(k);
        int currency = currencyOf(k);
        return state.lines.quiets[Lines.side(issuer, signer, currency)]
                && state.lines.quiets[Lines.side(issuer, b, currency)];
    }

    /** Whether the signer may place an offer when so many of those that stand will be gone. */
    private boolean canPlace(int gone) {
        return state.offers.size() - gone < MOST_OFFERS && state.affordsOneMore(signer, 0);
    }

    private boolean isOther(int b) {
        return isAccount(b) && b != signer;
    }

    private static boolean isWithin(int number, int least, int most) {
        return number >= least && number <= most;
    }

    private static boolean isAccount(int a) {
        return isWithin(a, 0, ACCOUNTS - 1);
    }

    private static boolean isAsset(int k) {
        return isWithin(k, 0, ASSETS - 1);
    }

    private static boolean isCurrency(int currency) {
        return isWithin(currency, 1, CURRENCIES);
    }

    private static boolean isLine(int a, int b, int currency) {
        return isAccount(a) && isAccount(b) && a != b && isCurrency(currency);
    }

    private static int issuerOf(int k) {
        return (k - 1) % ACCOUNTS;
    }

    private static int currencyOf(int k) {
        return 1 + (k - 1) / ACCOUNTS;
    }

    private static final class Account {
        boolean exists;
        int coins;
        int number = 1;
        int rate;

        int leaf() {
            return exists ? coins * 1024 + number + 300007 * rate : 0;
        }
    }

    private static final class Offer {
        int id;
        int owner;
        int wants;
        int w;
        int gives;
        int g;

        boolean isBetterThan(Offer other) {
            return (long) w * other.g < (long) other.w * g;
        }

        /** No offer that stands gives or wants 0; g and w are looked at all the same. */
        int priceOf(int v) {
            return g > 0 ? (int) (((long) v * w + g - 1) / g) : 0;
        }

        /** The most of what it gives that is to be had for a price of at most so much. */
        long mostFor(int price) {
            return w > 0 ? (long) price * g / w : 0;
        }

        int leaf() {
            return id + 64 * owner + 512 * (wants + 13 * gives) + 100003 * w + 7 * g;
        }
    }

    private static final class Deposit {
        int id;
        int from;
        int to;
        int coins;
        int after;
        int until;

        int leaf() {
            return id + 64 * (from + 6 * to) + 3001 * coins + 11 * after + 13 * until;
        }
    }

    /** Each line has two sides, one as seen by either account; the balances mirror one another. */
    private static final class Lines {
        private static final int SIDES = ACCOUNTS * ACCOUNTS * CURRENCIES;

        final int[] balances = new int[SIDES];
        final int[] limits = new int[SIDES];
        final boolean[] quiets = new boolean[SIDES];

        static int side(int a, int b, int currency) {
            return (a * ACCOUNTS + b) * CURRENCIES + currency - 1;
        }

        boolean isPiece(int side) {
            return limits[side] > 0 || balances[side] > 0;
        }

        boolean hasRoom(int side, int d) {
            return balances[side] + d <= limits[side];
        }

        void grow(int a, int b, int currency, int v) {
            balances[side(a, b, currency)] += v;
            balances[side(b, a, currency)] -= v;
        }

        /** The sides of a lie together, so one run over them counts its pieces. */
        int piecesOf(int a) {
            int first = side(a, 0, 1);
            int count = 0;
            for (int side = first; side < first + ACCOUNTS * CURRENCIES; side++) {
                if (isPiece(side)) {
                    count++;
                }
            }
            return count;
        }

        int leaf(int a, int b, int currency) {
            int there = side(a, b, currency);
            int back = side(b, a, currency);
            return balances[there] + 31 * limits[there] + 17 * limits[back]
                    + (quiets[there] ? 1000003 : 0) + (quiets[back] ? 2000003 : 0);
        }
    }

    /** All that the transactions change, but for the clock and the burnt coins. */
    private static final class State {
        final Account[] accounts = new Account[ACCOUNTS];
        final Lines lines = new Lines();
        final ArrayList<Offer> offers = new ArrayList<>();
        final ArrayList<Deposit> deposits = new ArrayList<>();
        private int lastOfferId;
        private int lastDepositId;

        State() {
            for (int a = 0; a < ACCOUNTS; a++) {
                accounts[a] = new Account();
            }
            accounts[0].exists = true;
            accounts[0].coins = MILLION;
        }

        int piecesOf(int a) {
            int count = lines.piecesOf(a);
            for (int i = 0; i < offers.size(); i++) {
                if (offers.get(i).owner == a) {
                    count++;
                }
            }
            for (int i = 0; i < deposits.size(); i++) {
                if (deposits.get(i).from == a) {
                    count++;
                }
            }
            return count;
        }

        private int reserveOf(int a) {
            return BASE_RESERVE + PIECE_RESERVE * piecesOf(a);
        }

        /** Whether a's coins, v of them gone, reach its reserve with one piece more. */
        boolean affordsOneMore(int a, int v) {
            return accounts[a].coins - v >= reserveOf(a) + PIECE_RESERVE;
        }

        int fundsOf(int a, int k) {
            if (k == COIN) {
                return Math.max(0, accounts[a].coins - reserveOf(a));
            }
            int issuer = issuerOf(k);
            if (a == issuer) {
                return ISSUER_FUNDS;
            }
            return Math.max(0, lines.balances[Lines.side(a, issuer, currencyOf(k))]);
        }

        /** What of a thousand is charged as toll when k moves between a and b. */
        private int tollRate(int k, int a, int b) {
            if (k == COIN) {
                return 0;
            }
            int issuer = issuerOf(k);
            return a == issuer || b == issuer ? 0 : accounts[issuer].rate;
        }

        int costOf(int v, int k, int a, int b) {
            long toll = ((long) v * tollRate(k, a, b) + 999) / 1000;
            return v + (int) toll;
        }

        /** The most of k whose cost is within the purse: v + v * rate / 1000 is not above it. */
        int mostMovable(int purse, int k, int a, int b) {
            return (int) (1000L * purse / (1000 + tollRate(k, a, b)));
        }

        /** Lets what a has of k grow by v, or fall if v is less than 0. */
        void change(int a, int k, int v) {
            if (k == COIN) {
                accounts[a].coins += v;
            } else if (a != issuerOf(k)) {
                lines.grow(a, issuerOf(k), currencyOf(k), v);
            }
        }

        int placeOfOffer(int id) {
            for (int i = 0; i < offers.size(); i++) {
                if (offers.get(i).id == id) {
                    return i;
                }
            }
            return ABSENT;
        }

        int placeOfDeposit(int id) {
            for (int i = 0; i < deposits.size(); i++) {
                if (deposits.get(i).id == id) {
                    return i;
                }
            }
            return ABSENT;
        }

        void addOffer(int owner, int wants, int w, int gives, int g) {
            Offer offer = new Offer();
            lastOfferId++;
            offer.id = lastOfferId;
            offer.owner = owner;
            offer.wants = wants;
            offer.w = w;
            offer.gives = gives;
            offer.g = g;
            offers.add(offer);
        }

        void addDeposit(int from, int to, int coins, int after, int until) {
            Deposit deposit = new Deposit();
            lastDepositId++;
            deposit.id = lastDepositId;
            deposit.from = from;
            deposit.to = to;
            deposit.coins = coins;
            deposit.after = after;
            deposit.until = until;
            deposits.add(deposit);
        }

        void dropSpentOffers() {
            for (int i = offers.size() - 1; i >= 0; i--) {
                if (offers.get(i).w == 0 || offers.get(i).g == 0) {
                    offers.remove(i);
                }
            }
        }
    }

    /** The offers of one book, best first; the row is made once and gathered into again. */
    private static final class Book {
        final Offer[] row = new Offer[MOST_OFFERS];
        int size;

        void gather(ArrayList<Offer> offers, int x, int k, int leftOut) {
            size = 0;
            for (int i = 0; i < offers.size() && i < MOST_OFFERS; i++) {
                Offer offer = offers.get(i);
                if (offer.wants == x && offer.gives == k && offer.owner != leftOut) {
                    insert(offer);
                }
            }
        }

        /** Offers come by ascending ids, so one that is only as good stays behind. */
        private void insert(Offer offer) {
            int place = size;
            while (place > 0 && offer.isBetterThan(row[place - 1])) {
                row[place] = row[place - 1];
                place--;
            }
            row[place] = offer;
            size++;
        }
    }

    /**
     * A taking from a book. It is planned first, which changes nothing, since whether it is done
     * hangs on what it comes to; then it may be carried out.
     */
    private static final class Taking {
        private final State state;
        final Book book = new Book();
        private final int[] amounts = new int[MOST_OFFERS];
        private final int[] prices = new int[MOST_OFFERS];
        private final int[] funds = new int[ACCOUNTS];
        private final int[] purses = new int[ACCOUNTS];
        private int taker;
        private int paid;
        private int got;
        private int reached;
        int taken;
        int price;
        int cost;

        Taking(State state) {
            this.state = state;
        }

        /** Sets out for account a, that pays in x and gets k. */
        void open(int a, int x, int k) {
            taker = a;
            paid = x;
            got = k;
            book.gather(state.offers, x, k, a);
            for (int owner = 0; owner < ACCOUNTS; owner++) {
                funds[owner] = state.fundsOf(owner, k);
            }
        }

        void planAll(int t) {
            startPlan();
            for (int place = 0; place < book.size && taken < t; place++) {
                goThrough(place, t - taken);
            }
        }

        /** Goes on when g is used up: offers without funds are gone as long as w is not taken. */
        void planCrossing(int w, int g, int purse) {
            startPlan();
            for (int place = 0; place < book.size && taken < w; place++) {
                Offer offer = book.row[place];
                if (!isCrossed(offer, w, g)) {
                    break;
                }
                int affordable = state.mostMovable(purse - cost, paid, taker, offer.owner);
                long most = offer.mostFor(Math.min(g - price, affordable));
                goThrough(place, (int) Math.min(w - taken, most));
            }
        }

        private static boolean isCrossed(Offer offer, int w, int g) {
            return (long) offer.w * w <= (long) g * offer.g;
        }

        private void startPlan() {
            System.arraycopy(funds, 0, purses, 0, ACCOUNTS);
            reached = 0;
            taken = 0;
            price = 0;
            cost = 0;
        }

        private void goThrough(int place, int most) {
            Offer offer = book.row[place];
            int owner = offer.owner;
            int movable = state.mostMovable(purses[owner], got, owner, taker);
            int v = Math.min(most, Math.min(offer.g, movable));
            amounts[place] = v;
            prices[place] = offer.priceOf(v);
            purses[owner] -= state.costOf(v, got, owner, taker);
            taken += v;
            price += prices[place];
            cost += state.costOf(prices[place], paid, taker, owner);
            reached = place + 1;
        }

        int countUnfunded() {
            int count = 0;
            for (int i = 0; i < reached; i++) {
                if (funds[book.row[i].owner] == 0) {
                    count++;
                }
            }
            return count;
        }

        /** Does the owners' side; what the taker pays and gets is for the transaction to do. */
        void carryOut() {
            for (int i = 0; i < reached; i++) {
                Offer offer = book.row[i];
                int owner = offer.owner;
                if (funds[owner] == 0) {
                    offer.g = 0;
                } else {
                    state.change(owner, got, -state.costOf(amounts[i], got, owner, taker));
                    state.change(owner, paid, prices[i]);
                    offer.g -= amounts[i];
                    offer.w -= prices[i];
                }
            }
            state.dropSpentOffers();
        }
    }

    /** The leaves of the root, in a row that is made once. */
    private static final class Leaves {
        private static final int COUNT = 64;
        private static final int FIRST_LINE = 6;
        private static final int FIRST_OFFER = 36;
        private static final int FIRST_DEPOSIT = 48;
        private static final int WIDTH = 16;
        private static final int START = 7;

        private final int[] row = new int[COUNT];

        void fill(State state) {
            Arrays.fill(row, 0);
            for (int a = 0; a < ACCOUNTS; a++) {
                row[a] = state.accounts[a].leaf();
            }
            fillLines(state.lines);
            for (int i = 0; i < state.offers.size() && i < MOST_OFFERS; i++) {
                row[FIRST_OFFER + i] = state.offers.get(i).leaf();
            }
            for (int i = 0; i < state.deposits.size() && i < MOST_DEPOSITS; i++) {
                row[FIRST_DEPOSIT + i] = state.deposits.get(i).leaf();
            }
        }

        private void fillLines(Lines lines) {
            int next = FIRST_LINE;
            for (int a = 0; a < ACCOUNTS; a++) {
                for (int b = a + 1; b < ACCOUNTS; b++) {
                    row[next] = lines.leaf(a, b, 1);
                    row[next + 1] = lines.leaf(a, b, 2);
                    next += CURRENCIES;
                }
            }
        }

        int fold() {
            int h = START;
            for (int first = 0; first < COUNT; first += WIDTH) {
                h = mix(h, inner(first));
            }
            return h;
        }

        private int inner(int first) {
            int h = START;
            for (int i = first; i < first + WIDTH; i++) {
                h = mix(h, row[i]);
            }
            return h;
        }

        private static int mix(int h, int part) {
            int sum = 31 * h + part;
            return sum ^ (sum >>> 11);
        }
    }
}
