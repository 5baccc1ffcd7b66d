import java.util.ArrayList;
import java.util.List;

/**
 * The document once more, in another form than the program has: every transaction works on a copy
 * of the ledger that is thrown away when it is claimed, amounts are found by trying, one by one,
 * from the greatest down, and nothing is remembered that can be worked out again.
 */
final class PlainLedger {
    static final int CLAIMED_FROM = 21;

    private static final class Deal implements Cloneable {
        long id, owner, wants, w, gives, g;

        @Override
        public Deal clone() {
            try {
                return (Deal) super.clone();
            } catch (CloneNotSupportedException e) {
                throw new IllegalStateException(e);
            }
        }
    }

    private static final class Vault {
        final long id, from, to, coins, after, until;

        Vault(long id, long from, long to, long coins, long after, long until) {
            this.id = id;
            this.from = from;
            this.to = to;
            this.coins = coins;
            this.after = after;
            this.until = until;
        }
    }

    /** What a transaction may change. */
    private static final class World {
        boolean[] exists = new boolean[6];
        long[] coins = new long[6];
        long[] number = new long[6];
        long[] rate = new long[6];
        long[][][] owed = new long[3][6][6];
        long[][][] limit = new long[3][6][6];
        boolean[][][] quiet = new boolean[3][6][6];
        List<Deal> deals = new ArrayList<>();
        List<Vault> vaults = new ArrayList<>();
        long dealsMade, vaultsMade;

        World copy() {
            World c = new World();
            c.exists = exists.clone();
            c.coins = coins.clone();
            c.number = number.clone();
            c.rate = rate.clone();
            for (int m = 1; m <= 2; m++) {
                for (int a = 0; a < 6; a++) {
                    c.owed[m][a] = owed[m][a].clone();
                    c.limit[m][a] = limit[m][a].clone();
                    c.quiet[m][a] = quiet[m][a].clone();
                }
            }
            for (Deal deal : deals) {
                c.deals.add(deal.clone());
            }
            c.vaults.addAll(vaults);
            c.dealsMade = dealsMade;
            c.vaultsMade = vaultsMade;
            return c;
        }

        int pieces(int a) {
            int n = 0;
            for (int m = 1; m <= 2; m++) {
                for (int b = 0; b < 6; b++) {
                    n += b != a && (limit[m][a][b] > 0 || owed[m][a][b] > 0) ? 1 : 0;
                }
            }
            for (Deal deal : deals) {
                n += deal.owner == a ? 1 : 0;
            }
            for (Vault vault : vaults) {
                n += vault.from == a ? 1 : 0;
            }
            return n;
        }

        long reserve(int a) {
            return 100 + 20L * pieces(a);
        }

        long funds(int a, int k) {
            if (k == 0) {
                return Math.max(coins[a] - reserve(a), 0);
            }
            return issuer(k) == a ? 1000000000 : Math.max(owed[money(k)][a][issuer(k)], 0);
        }

        long cost(long v, int k, int a, int b) {
            if (k == 0 || a == issuer(k) || b == issuer(k)) {
                return v;
            }
            long toll = v * rate[issuer(k)] / 1000;
            while (toll * 1000 < v * rate[issuer(k)]) {
                toll++;
            }
            return v + toll;
        }

        void give(int a, int k, long v) {
            if (k == 0) {
                coins[a] += v;
            } else if (a != issuer(k)) {
                owed[money(k)][a][issuer(k)] += v;
                owed[money(k)][issuer(k)][a] -= v;
            }
        }

        List<Deal> shelf(int x, int k) {
            List<Deal> found = new ArrayList<>();
            for (Deal deal : deals) {
                if (deal.wants == x && deal.gives == k) {
                    found.add(deal);
                }
            }
            found.sort((p, q) -> p.w * q.g != q.w * p.g
                    ? Long.compare(p.w * q.g, q.w * p.g) : Long.compare(p.id, q.id));
            return found;
        }
    }

    /** What came of a taking. */
    private static final class Haul {
        long taken, prices, costs;
    }

    private World world = new World();
    private long clock, burnt;
    private int signer = -1;
    private long signed;
    private int spent = 0;
    private long max = 1000000;
    private boolean partial;

    PlainLedger() {
        world.exists[0] = true;
        world.coins[0] = 1000000;
        world.number[0] = 1;
    }

    static int issuer(int k) {
        return (k - 1) % 6;
    }

    static int money(int k) {
        return k <= 6 ? 1 : 2;
    }

    private static boolean in(long v, long low, long high) {
        return low <= v && v <= high;
    }

    boolean by(int a, int number) {
        if (!in(a, 0, 5) || !in(number, 1, 1000000)) {
            return false;
        }
        signer = a;
        signed = number;
        return true;
    }

    boolean spend(int s, int most, boolean part) {
        if (!in(s, 0, 12) || !in(most, 1, 1000000)) {
            return false;
        }
        spent = s;
        max = most;
        partial = part;
        return true;
    }

    /** The answer of a refused transaction, or 0 when its fee has been burnt. */
    private int enter(boolean good) {
        if (!good || signer < 0) {
            return -1;
        }
        if (!world.exists[signer]) {
            return -2;
        }
        if (signed != world.number[signer]) {
            return signed > world.number[signer] ? -3 : -4;
        }
        if (world.coins[signer] < 10) {
            return -5;
        }
        world.coins[signer] -= 10;
        world.number[signer]++;
        burnt += 10;
        return 0;
    }

    private int leave(World next, int answer) {
        if (answer < CLAIMED_FROM) {
            world = next;
        }
        return answer;
    }

    int send(int b, int v) {
        int refused = enter(in(b, 0, 5) && b != signer && in(v, 1, 1000000));
        if (refused != 0) {
            return refused;
        }
        if (!world.exists[b] && v < 100) {
            return 21;
        }
        if (world.funds(signer, 0) < v) {
            return 22;
        }
        if (!world.exists[b]) {
            world.exists[b] = true;
            world.number[b] = 1;
            world.rate[b] = 0;
        }
        world.coins[signer] -= v;
        world.coins[b] += v;
        return 0;
    }

    int trust(int b, int m, int limit, boolean quiet) {
        int refused = enter(in(b, 0, 5) && b != signer && in(m, 1, 2) && in(limit, 0, 100000));
        if (refused != 0) {
            return refused;
        }
        if (!world.exists[b]) {
            return 21;
        }
        World next = world.copy();
        next.limit[m][signer][b] = limit;
        next.quiet[m][signer][b] = quiet;
        boolean more = next.pieces(signer) > world.pieces(signer);
        return leave(next, more && next.coins[signer] < next.reserve(signer) ? 23 : 0);
    }

    int rate(int r) {
        int refused = enter(in(r, 0, 200));
        if (refused == 0) {
            world.rate[signer] = r;
        }
        return refused;
    }

    /**
     * Takes from the book (x, k) of the world next, with funds as they are in this.world; w and g
     * are those of a crossing offer, or w is t and g is less than 0 for a plain taking.
     */
    private Haul take(World next, int x, int k, long w, long g) {
        Haul haul = new Haul();
        long[] used = new long[6];
        for (Deal deal : next.shelf(x, k)) {
            int owner = (int) deal.owner;
            if (owner == signer) {
                continue;
            }
            if (haul.taken == w || g >= 0 && deal.w * w > g * deal.g) {
                break;
            }
            long funds = world.funds(owner, k);
            if (funds == 0) {
                next.deals.remove(deal);
                continue;
            }
            long v = Math.min(deal.g, w - haul.taken);
            while (v > 0 && !fits(deal, v, used[owner], haul, g)) {
                v--;
            }
            if (v == 0) {
                continue;
            }
            long price = price(deal, v);
            long cost = world.cost(v, k, owner, signer);
            used[owner] += cost;
            next.give(owner, k, -cost);
            next.give(owner, x, price);
            haul.taken += v;
            haul.prices += price;
            haul.costs += world.cost(price, x, signer, owner);
            deal.g -= v;
            deal.w -= price;
            if (deal.g == 0 || deal.w == 0) {
                next.deals.remove(deal);
            }
        }
        return haul;
    }

    private boolean fits(Deal deal, long v, long used, Haul haul, long g) {
        int owner = (int) deal.owner;
        int k = (int) deal.gives;
        int x = (int) deal.wants;
        if (used + world.cost(v, k, owner, signer) > world.funds(owner, k)) {
            return false;
        }
        if (g < 0) {
            return true;
        }
        long price = price(deal, v);
        return price <= g - haul.prices
                && haul.costs + world.cost(price, x, signer, owner) <= world.funds(signer, x);
    }

    private static long price(Deal deal, long v) {
        long whole = v * deal.w / deal.g;
        return whole * deal.g < v * deal.w ? whole + 1 : whole;
    }

    int pay(int b, int k, int v) {
        int refused = enter(in(b, 0, 5) && b != signer && in(k, 1, 12) && in(v, 1, 400));
        if (refused != 0) {
            return refused;
        }
        if (!world.exists[b]) {
            return 21;
        }
        for (int d = v; d >= (partial ? 1 : v); d--) {
            World next = world.copy();
            if (works(next, b, k, d)) {
                return leave(next, 0);
            }
        }
        return 24;
    }

    private boolean works(World next, int b, int k, int d) {
        int i = issuer(k);
        int m = money(k);
        if (b != i && world.owed[m][b][i] + d > world.limit[m][b][i]) {
            return false;
        }
        long n = world.cost(d, k, signer, b);
        long spending = n;
        if (spent == k) {
            if (signer != i && b != i && world.quiet[m][i][signer] && world.quiet[m][i][b]) {
                return false;
            }
        } else {
            Haul haul = take(next, spent, k, n, -1);
            if (haul.taken < n) {
                return false;
            }
            spending = haul.costs;
        }
        next.give(signer, spent, -spending);
        next.give(b, k, d);
        return spending <= max && spending <= world.funds(signer, spent);
    }

    int offer(int wants, int w, int gives, int g, int kind) {
        int refused = enter(in(wants, 0, 12) && in(gives, 0, 12) && wants != gives
                && in(w, 1, 100000) && in(g, 1, 100000) && in(kind, 0, 2));
        if (refused != 0) {
            return refused;
        }
        if (world.funds(signer, gives) == 0) {
            return 22;
        }
        World next = world.copy();
        Haul haul = take(next, gives, wants, w, g);
        if (kind == 2 && haul.taken < w || kind == 1 && haul.taken == 0) {
            return 25;
        }
        next.give(signer, gives, -haul.costs);
        next.give(signer, wants, haul.taken);
        if (kind != 0 || haul.taken == w || haul.prices == g) {
            return leave(next, 0);
        }
        World with = next.copy();
        Deal deal = new Deal();
        deal.id = ++with.dealsMade;
        deal.owner = signer;
        deal.wants = wants;
        deal.w = w - haul.taken;
        deal.gives = gives;
        deal.g = g - haul.prices;
        with.deals.add(deal);
        if (with.deals.size() > 12 || with.coins[signer] < with.reserve(signer)) {
            return leave(next, haul.taken == 0 ? 23 : 0);
        }
        return leave(with, 0);
    }

    int cancel(int id) {
        int refused = enter(id >= 1);
        if (refused != 0) {
            return refused;
        }
        return world.deals.removeIf(deal -> deal.id == id && deal.owner == signer) ? 0 : 26;
    }

    int deposit(int b, int v, int after, int until) {
        int refused = enter(in(b, 0, 5) && b != signer && in(v, 1, 1000000)
                && 0 <= after && after < until && until <= 100000);
        if (refused != 0) {
            return refused;
        }
        if (!world.exists[b]) {
            return 21;
        }
        World next = world.copy();
        next.vaults.add(new Vault(++next.vaultsMade, signer, b, v, after, until));
        if (next.vaults.size() > 6) {
            return 23;
        }
        next.coins[signer] -= v;
        return leave(next, next.coins[signer] < next.reserve(signer) ? 22 : 0);
    }

    int settle(int id) {
        int refused = enter(id >= 1);
        if (refused != 0) {
            return refused;
        }
        for (Vault vault : world.vaults) {
            if (vault.id == id) {
                if (clock < vault.after) {
                    return 27;
                }
                world.coins[(int) (clock < vault.until ? vault.to : vault.from)] += vault.coins;
                world.vaults.remove(vault);
                return 0;
            }
        }
        return 26;
    }

    int tick(int n) {
        clock += in(n, 0, 1000) ? n : 0;
        return (int) clock;
    }

    int account(int a, int what) {
        if (!in(a, 0, 5) || !world.exists[a] || !in(what, 0, 3)) {
            return -1;
        }
        long[] row = {world.coins[a], world.number[a], world.rate[a], world.pieces(a)};
        return (int) row[what];
    }

    int balance(int a, int b, int m) {
        boolean good = in(a, 0, 5) && in(b, 0, 5) && a != b && in(m, 1, 2);
        return good ? (int) world.owed[m][a][b] : 0;
    }

    int limit(int a, int b, int m) {
        if (!in(a, 0, 5) || !in(b, 0, 5) || a == b || !in(m, 1, 2)) {
            return 0;
        }
        return (int) world.limit[m][a][b] + (world.quiet[m][a][b] ? 1000000 : 0);
    }

    int funds(int a, int k) {
        return in(a, 0, 5) && world.exists[a] && in(k, 0, 12) ? (int) world.funds(a, k) : -1;
    }

    int book(int x, int k, int n) {
        if (!in(x, 0, 12) || !in(k, 0, 12)) {
            return -1;
        }
        List<Deal> shelf = world.shelf(x, k);
        if (n == -1) {
            return shelf.size();
        }
        return n >= 0 && n < shelf.size() ? (int) shelf.get(n).id : -1;
    }

    int offerOf(int id, int what) {
        for (Deal deal : world.deals) {
            if (deal.id == id && in(what, 0, 2)) {
                return (int) new long[] {deal.w, deal.g, deal.owner}[what];
            }
        }
        return -1;
    }

    int depositOf(int id) {
        for (Vault vault : world.vaults) {
            if (vault.id == id) {
                return (int) vault.coins;
            }
        }
        return -1;
    }

    int burnt() {
        return (int) burnt;
    }

    int root() {
        long[] leaves = new long[64];
        for (int a = 0; a < 6; a++) {
            leaves[a] = world.exists[a]
                    ? world.coins[a] * 1024 + world.number[a] + 300007 * world.rate[a] : 0;
        }
        int p = 0;
        for (int a = 0; a < 5; a++) {
            for (int b = a + 1; b < 6; b++, p++) {
                for (int m = 1; m <= 2; m++) {
                    leaves[6 + 2 * p + (m - 1)] = world.owed[m][a][b] + 31 * world.limit[m][a][b]
                            + 17 * world.limit[m][b][a] + (world.quiet[m][a][b] ? 1000003 : 0)
                            + (world.quiet[m][b][a] ? 2000003 : 0);
                }
            }
        }
        world.deals.sort((x, y) -> Long.compare(x.id, y.id));
        for (int i = 0; i < world.deals.size(); i++) {
            Deal z = world.deals.get(i);
            leaves[36 + i] = z.id + 64 * z.owner + 512 * (z.wants + 13 * z.gives) + 100003 * z.w
                    + 7 * z.g;
        }
        world.vaults.sort((x, y) -> Long.compare(x.id, y.id));
        for (int i = 0; i < world.vaults.size(); i++) {
            Vault z = world.vaults.get(i);
            leaves[48 + i] = z.id + 64 * (z.from + 6 * z.to) + 3001 * z.coins + 11 * z.after
                    + 13 * z.until;
        }
        return Folding.rootOf(leaves);
    }
}
