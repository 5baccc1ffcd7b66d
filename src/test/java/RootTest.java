/** Promise 21. */
public final class RootTest {
    private static final Checks CHECKS = new Checks();

    public static void main(String[] args) {
        promise21Accounts();
        promise21EveryLine();
        promise21OffersAndDeposits();
        promise21IntsThatWrap();
        promise21FullRows();
        promise21OwedEitherWay();
        promise21ClockAndSignerAreNoPart();
        CHECKS.end();
    }

    private static void promise21Accounts() {
        Bench bench = new Bench(CHECKS).settlers(5, 70000);
        CHECKS.same("rate", bench.as(3).rate(200), 0);
        CHECKS.same("rate", bench.as(5).rate(1), 0);
        CHECKS.same("root", bench.ledger.root(), Folding.rootOf(accountLeaves(bench.ledger)));
        CHECKS.same("again", bench.ledger.root(), Folding.rootOf(accountLeaves(bench.ledger)));
    }

    private static long[] accountLeaves(TollLedger x) {
        long[] leaves = new long[64];
        for (int a = 0; a < 6; a++) {
            if (x.account(a, 0) >= 0) {
                leaves[a] = x.account(a, 0) * 1024L + x.account(a, 1) + 300007L * x.account(a, 2);
            }
        }
        return leaves;
    }

    private static void promise21EveryLine() {
        int[][] pairs = {{0, 1}, {0, 2}, {0, 3}, {0, 4}, {0, 5}, {1, 2}, {1, 3}, {1, 4}, {1, 5},
            {2, 3}, {2, 4}, {2, 5}, {3, 4}, {3, 5}, {4, 5}};
        for (int p = 0; p < pairs.length; p++) {
            for (int currency = 1; currency <= 2; currency++) {
                int a = pairs[p][0];
                int b = pairs[p][1];
                Bench bench = new Bench(CHECKS).settlers(5, 5000);
                long leaf = 0;
                CHECKS.same("trust", bench.as(a).trust(b, currency, 100, true), 0);
                leaf += 31 * 100 + 1000003;
                checkLine(bench, 6 + 2 * p + currency - 1, leaf);
                CHECKS.same("trust", bench.as(b).trust(a, currency, 77, true), 0);
                leaf += 17 * 77 + 2000003;
                checkLine(bench, 6 + 2 * p + currency - 1, leaf);
                CHECKS.same("trust", bench.as(a).trust(b, currency, 100, false), 0);
                leaf -= 1000003;
                bench.ledger.spend(1 + a + 6 * (currency - 1), 1000, false);
                CHECKS.same("pay", bench.as(a).pay(b, 1 + a + 6 * (currency - 1), 50), 0);
                leaf -= 50;
                checkLine(bench, 6 + 2 * p + currency - 1, leaf);
            }
        }
    }

    private static void checkLine(Bench bench, int place, long leaf) {
        long[] leaves = accountLeaves(bench.ledger);
        leaves[place] = leaf;
        CHECKS.same("root with line leaf " + place, bench.ledger.root(), Folding.rootOf(leaves));
    }

    private static void promise21OffersAndDeposits() {
        Bench bench = new Bench(CHECKS).settlers(3, 60000);
        TollLedger x = bench.ledger;
        CHECKS.same("offer", bench.as(1).offer(12, 100000, 0, 99999, 0), 0);
        CHECKS.same("offer", bench.as(2).offer(0, 7, 3, 8, 0), 0);
        CHECKS.same("offer", bench.as(3).offer(1, 20, 10, 30, 0), 0);
        CHECKS.same("deposit", bench.as(1).deposit(2, 1000, 1, 100000), 0);
        CHECKS.same("deposit", bench.as(2).deposit(3, 2000, 0, 5), 0);
        CHECKS.same("deposit", bench.as(3).deposit(0, 3000, 4, 5), 0);
        long[] leaves = accountLeaves(x);
        leaves[36] = 1 + 64 + 512 * 12 + 100003L * 100000 + 7 * 99999;
        leaves[37] = 2 + 64 * 2 + 512 * (13 * 3) + 100003 * 7 + 7 * 8;
        leaves[38] = 3 + 64 * 3 + 512 * (1 + 13 * 10) + 100003 * 20 + 7 * 30;
        leaves[48] = 1 + 64 * (1 + 6 * 2) + 3001 * 1000 + 11 + 13 * 100000;
        leaves[49] = 2 + 64 * (2 + 6 * 3) + 3001 * 2000 + 13 * 5;
        leaves[50] = 3 + 64 * 3 + 3001 * 3000 + 11 * 4 + 13 * 5;
        CHECKS.same("root", x.root(), Folding.rootOf(leaves));
        CHECKS.same("cancel", bench.as(1).cancel(1), 0);
        CHECKS.same("settle", bench.as(1).settle(2), 0);
        long[] closer = accountLeaves(x);
        closer[36] = leaves[37];
        closer[37] = leaves[38];
        closer[48] = leaves[48];
        closer[49] = leaves[50];
        CHECKS.same("root with fewer", x.root(), Folding.rootOf(closer));
    }

    /** 100003 * 100000 and 3001 * 990000 are beyond the ints. */
    private static void promise21IntsThatWrap() {
        Bench bench = new Bench(CHECKS).settlers(1, 100);
        TollLedger x = bench.ledger;
        CHECKS.same("offer", bench.as(0).offer(12, 100000, 7, 100000, 0), 0);
        CHECKS.same("rate", bench.as(0).rate(200), 0);
        CHECKS.same("deposit", bench.as(0).deposit(1, 990000, 99999, 100000), 0);
        long[] leaves = accountLeaves(x);
        leaves[36] = 1 + 512L * (12 + 13 * 7) + 100003L * 100000 + 7L * 100000;
        leaves[48] = 1 + 64L * 6 + 3001L * 990000 + 11L * 99999 + 13L * 100000;
        CHECKS.yes("beyond", leaves[36] > Integer.MAX_VALUE && leaves[48] > Integer.MAX_VALUE);
        CHECKS.same("root", x.root(), Folding.rootOf(leaves));
    }

    /** Twelve offers and six deposits reach the last of their leaves; those behind stay 0. */
    private static void promise21FullRows() {
        Bench bench = new Bench(CHECKS).settlers(1, 50000);
        TollLedger x = bench.ledger;
        long[] leaves = new long[64];
        for (int i = 0; i < 12; i++) {
            CHECKS.same("offer", bench.as(i % 2).offer(3, 5 + i, 0, 9, 0), 0);
            leaves[36 + i] = i + 1 + 64 * (i % 2) + 512 * 3 + 100003L * (5 + i) + 7 * 9;
        }
        for (int i = 0; i < 6; i++) {
            CHECKS.same("deposit", bench.as(i % 2).deposit(1 - i % 2, 7 + i, i, 50), 0);
            leaves[48 + i] = i + 1 + 64 * (i % 2 + 6 * (1 - i % 2)) + 3001 * (7 + i) + 11 * i
                    + 13 * 50;
        }
        System.arraycopy(accountLeaves(x), 0, leaves, 0, 6);
        CHECKS.same("full", x.root(), Folding.rootOf(leaves));
        for (int i = 0; i < 12; i++) {
            CHECKS.same("cancel", bench.as(i % 2).cancel(i + 1), 0);
            leaves[36 + i] = 0;
        }
        x.tick(9);
        for (int i = 0; i < 6; i++) {
            CHECKS.same("settle", bench.as(1).settle(i + 1), 0);
            leaves[48 + i] = 0;
        }
        System.arraycopy(accountLeaves(x), 0, leaves, 0, 6);
        CHECKS.same("empty again", x.root(), Folding.rootOf(leaves));
    }

    private static void promise21OwedEitherWay() {
        Bench bench = new Bench(CHECKS).settlers(1, 50000).issue(1, 1, 30).issue(0, 8, 40);
        long[] leaves = accountLeaves(bench.ledger);
        leaves[6] = -30 + 17L * 100000;
        leaves[7] = 40 + 31L * 100000;
        CHECKS.same("root", bench.ledger.root(), Folding.rootOf(leaves));
    }

    private static void promise21ClockAndSignerAreNoPart() {
        TollLedger x = new TollLedger();
        int root = x.root();
        x.tick(500);
        x.by(0, 1);
        x.spend(3, 5, true);
        CHECKS.same("root", x.root(), root);
    }
}
