import java.util.ArrayList;
import java.util.List;
import java.util.Random;
import java.util.TreeMap;

/**
 * Long runs of calls, the same ones each time, given both to the program and to PlainLedger: every
 * answer, and the root after every call, must be the same. The runs go on beyond the 512 calls that
 * the document binds, since states that are rare are reached late.
 */
public final class ModelTest {
    private static final int RUNS = 400;
    private static final int CALLS = 500;
    private static final String[] MUST_OCCUR = {
        "send -1", "send -2", "send -3", "send -4", "send -5", "send 0", "send 21", "send 22",
        "trust -1", "trust 0", "trust 21", "trust 23", "rate -1", "rate 0", "pay -1", "pay 0",
        "pay 21", "pay 24", "offer -1", "offer 0", "offer 22", "offer 23", "offer 25",
        "cancel -1", "cancel 0", "cancel 26", "deposit -1", "deposit 0", "deposit 21",
        "deposit 22", "deposit 23", "settle -1", "settle 0", "settle 26", "settle 27",
        "12 offers 23", "12 offers, crossed 0", "crossed 0", "crossed several 0",
        "by way of a book 0", "by way of several 0", "direct 0", "partial 0", "cut 0"
    };

    private final Checks checks;
    private final TreeMap<String, Integer> tally;
    private final Random random;
    private final TollLedger program = new TollLedger();
    private final PlainLedger plain = new PlainLedger();
    private final int[] assets = new int[4];
    private final int scale;
    private String where = "";
    private int made;
    private boolean partial;
    private int spent;
    private int settlers;

    private ModelTest(int run, Checks checks, TreeMap<String, Integer> tally) {
        this.checks = checks;
        this.tally = tally;
        random = new Random(run);
        scale = new int[] {12, 60, 400, 3000, 100000}[run % 10 == 0 ? 4 : run % 4];
        settlers = odd(4) ? 1 + random.nextInt(5) : 3 + random.nextInt(3);
        for (int i = 0; i < assets.length; i++) {
            int issuer = odd(10) ? random.nextInt(6) : random.nextInt(settlers + 1);
            assets[i] = i == 0 && run % 3 != 0 ? 0 : 1 + issuer + 6 * random.nextInt(2);
        }
    }

    public static void main(String[] args) {
        Checks checks = new Checks();
        TreeMap<String, Integer> tally = new TreeMap<>();
        for (int run = 0; run < RUNS && checks.wrong() == 0; run++) {
            new ModelTest(run, checks, tally).play(run);
        }
        for (String event : MUST_OCCUR) {
            checks.yes("occurs: " + event, tally.getOrDefault(event, 0) > 0);
        }
        if (args.length > 0) {
            System.out.println(tally);
        }
        checks.end();
    }

    private void play(int run) {
        where = "run " + run + " at first: ";
        for (int b = 1; b <= settlers; b++) {
            sign(0);
            send(b, odd(5) ? 100 + random.nextInt(300) : 3000 + random.nextInt(50000));
        }
        for (int k : assets) {
            for (int b = 0; b <= settlers && k > 0; b++) {
                issue(k, b);
            }
        }
        while (made < CALLS && checks.wrong() == 0) {
            where = "run " + run + " call " + made + ": ";
            if (odd(4)) {
                ask();
            } else {
                sign(odd(40) ? random.nextInt(6) : random.nextInt(settlers + 1));
                transaction();
            }
        }
        compareAll();
    }

    /** Lets b trust k's issuer and have something of k, so that there is what to trade with. */
    private void issue(int k, int b) {
        sign(b);
        trust(PlainLedger.issuer(k), PlainLedger.money(k), 400 + random.nextInt(3000), odd(8));
        sign(PlainLedger.issuer(k));
        spend(k, 1000000, false);
        payTo(b, k, 1 + random.nextInt(400));
        if (odd(3)) {
            sign(PlainLedger.issuer(k));
            rate(random.nextInt(201));
        }
    }

    private boolean odd(int n) {
        return random.nextInt(n) == 0;
    }

    /** Mostly one of the few assets of this run, so that books fill and meet. */
    private int asset() {
        return odd(100) ? random.nextInt(15) - 1 : assets[random.nextInt(assets.length)];
    }

    private int number() {
        return odd(200) ? edge() : 1 + random.nextInt(scale);
    }

    private int edge() {
        int[] edges = {-1, 0, 1, 99, 100, 400, 401, 100000, 100001, 1000000, 1000001,
            Integer.MAX_VALUE, Integer.MIN_VALUE};
        return edges[random.nextInt(edges.length)];
    }

    private int anyone() {
        return odd(20) ? random.nextInt(10) - 2 : random.nextInt(settlers + 1);
    }

    private void sign(int a) {
        int right = Math.max(1, program.account(a, 1));
        int number = odd(60) ? right - 1 + random.nextInt(3) : right;
        int who = odd(200) ? edge() : a;
        same("by", program.by(who, number) ? 1 : 0, plain.by(who, number) ? 1 : 0);
    }

    private void transaction() {
        int dice = random.nextInt(100);
        if (dice < 40) {
            offer();
        } else if (dice < 65) {
            pay();
        } else if (dice < 72) {
            trustSomeone();
        } else if (dice < 75) {
            rate(odd(10) ? edge() : random.nextInt(201));
        } else if (dice < 83) {
            cancel();
        } else if (dice < 90) {
            send(anyone(), odd(3) ? drain() : number());
        } else if (dice < 95) {
            deposit();
        } else {
            int id = random.nextInt(Math.max(4, made / 25));
            answer("settle", program.settle(id), plain.settle(id));
        }
    }

    /** Sums that leave accounts near their reserve. */
    private int drain() {
        return Math.max(1, program.funds(random.nextInt(6), 0) - random.nextInt(40));
    }

    private void send(int b, int v) {
        answer("send", program.send(b, v), plain.send(b, v));
    }

    private void rate(int r) {
        answer("rate", program.rate(r), plain.rate(r));
    }

    private void trust(int b, int m, int limit, boolean quiet) {
        answer("trust", program.trust(b, m, limit, quiet), plain.trust(b, m, limit, quiet));
    }

    private void trustSomeone() {
        int k = asset();
        boolean toIssuer = k > 0 && k < 13 && odd(2);
        int b = toIssuer ? PlainLedger.issuer(k) : anyone();
        int limit = odd(5) ? 0 : number();
        trust(b, odd(30) ? random.nextInt(4) : 1 + random.nextInt(2), limit, odd(3));
    }

    private void offer() {
        int wants = asset();
        int gives = asset();
        for (int tries = 0; wants == gives && tries < 5; tries++) {
            gives = asset();
        }
        int w = number();
        int g = odd(3) ? number() : (int) Math.min(100000, 1 + w * (50L + random.nextInt(101)) / 100);
        int kind = odd(40) ? random.nextInt(6) - 1 : Math.max(0, random.nextInt(6) - 3);
        boolean full = standing().size() == 12;
        long before = touched(gives, wants);
        int there = Math.max(0, program.book(gives, wants, -1));
        int got = program.offer(wants, w, gives, g, kind);
        answer("offer", got, plain.offer(wants, w, gives, g, kind));
        boolean crossed = there > 0 && before != touched(gives, wants);
        int gone = there - Math.max(0, program.book(gives, wants, -1));
        count((full ? "12 offers, crossed " : "crossed ") + got, crossed);
        count("12 offers " + got, full);
        count("crossed several " + got, gone > 1);
    }

    /** A number that is another when something was taken from the book (x, k). */
    private long touched(int x, int k) {
        long sum = 0;
        for (int n = 0; n < program.book(x, k, -1); n++) {
            sum = sum * 31 + program.offerOf(program.book(x, k, n), 1);
        }
        return sum;
    }

    private void cancel() {
        List<Integer> ids = standing();
        boolean blind = ids.isEmpty() || odd(5);
        int id = blind ? random.nextInt(60) : ids.get(random.nextInt(ids.size()));
        if (!blind && !odd(5)) {
            sign(program.offerOf(id, 2));
        }
        answer("cancel", program.cancel(id), plain.cancel(id));
    }

    private List<Integer> standing() {
        List<Integer> ids = new ArrayList<>();
        for (int x = 0; x < 13; x++) {
            for (int k = 0; k < 13; k++) {
                for (int n = 0; n < program.book(x, k, -1); n++) {
                    ids.add(program.book(x, k, n));
                }
            }
        }
        return ids;
    }

    private void pay() {
        int k = asset();
        if (k == 0 && !odd(20)) {
            k = assets[1];
        }
        if (odd(2)) {
            spend(odd(3) ? k : asset(), odd(2) ? 1000000 : number(), odd(2));
        }
        payTo(anyone(), k, odd(30) ? edge() : 1 + random.nextInt(Math.min(400, scale)));
    }

    private void spend(int s, int max, boolean part) {
        boolean set = program.spend(s, max, part);
        same("spend", set ? 1 : 0, plain.spend(s, max, part) ? 1 : 0);
        if (set) {
            spent = s;
            partial = part;
        }
    }

    private void payTo(int b, int k, int v) {
        int there = Math.max(0, program.book(spent, k, -1));
        int before = k > 0 && k < 13 ? program.balance(b, PlainLedger.issuer(k), PlainLedger.money(k)) : 0;
        int got = program.pay(b, k, v);
        answer("pay", got, plain.pay(b, k, v));
        int gone = there - Math.max(0, program.book(spent, k, -1));
        count((spent == k ? "direct " : "by way of a book ") + got, true);
        count("by way of several " + got, gone > 1);
        count("partial " + got, partial);
        boolean toOther = k > 0 && k < 13 && b != PlainLedger.issuer(k);
        count("cut " + got, toOther
                && program.balance(b, PlainLedger.issuer(k), PlainLedger.money(k)) - before < v);
    }

    private void deposit() {
        int now = plain.tick(0);
        int b = anyone();
        int v = odd(4) ? drain() : number();
        int after = odd(20) ? edge() : Math.max(0, now + random.nextInt(30) - 10);
        int until = odd(20) ? edge() : after + random.nextInt(30);
        answer("deposit", program.deposit(b, v, after, until), plain.deposit(b, v, after, until));
    }

    private void ask() {
        int a = random.nextInt(9) - 1;
        int b = random.nextInt(9) - 1;
        int k = asset();
        int x = asset();
        int n = random.nextInt(7) - 2;
        int m = random.nextInt(4);
        int id = random.nextInt(Math.max(3, made / 4));
        int ticks = odd(10) ? edge() : random.nextInt(8);
        same("tick", program.tick(ticks), plain.tick(ticks));
        same("account", program.account(a, n), plain.account(a, n));
        same("balance", program.balance(a, b, m), plain.balance(a, b, m));
        same("limit", program.limit(a, b, m), plain.limit(a, b, m));
        same("funds", program.funds(a, k), plain.funds(a, k));
        same("book", program.book(x, k, n), plain.book(x, k, n));
        same("offerOf", program.offerOf(id, n), plain.offerOf(id, n));
        same("depositOf", program.depositOf(id), plain.depositOf(id));
        same("burnt", program.burnt(), plain.burnt());
    }

    private void compareAll() {
        for (int a = -1; a <= 6; a++) {
            for (int n = -2; n <= 13; n++) {
                same("account", program.account(a, n), plain.account(a, n));
                same("funds", program.funds(a, n), plain.funds(a, n));
                for (int m = 0; m <= 3; m++) {
                    same("balance", program.balance(a, n, m), plain.balance(a, n, m));
                    same("limit", program.limit(a, n, m), plain.limit(a, n, m));
                }
            }
        }
        for (int x = -1; x <= 13; x++) {
            for (int k = -1; k <= 13; k++) {
                for (int n = -2; n <= 12; n++) {
                    same("book", program.book(x, k, n), plain.book(x, k, n));
                }
            }
        }
        for (int id = -1; id <= CALLS; id++) {
            same("depositOf", program.depositOf(id), plain.depositOf(id));
            for (int what = -1; what <= 3; what++) {
                same("offerOf", program.offerOf(id, what), plain.offerOf(id, what));
            }
        }
    }

    private void answer(String call, int got, int due) {
        made++;
        count(call + " " + got, true);
        same(call, got, due);
        same("root after " + call, program.root(), plain.root());
    }

    private void count(String event, boolean occurs) {
        if (occurs) {
            tally.merge(event, 1, Integer::sum);
        }
    }

    private void same(String call, int got, int due) {
        checks.same(where + call, got, due);
    }
}
