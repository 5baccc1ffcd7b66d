/** Promises 10, 11, 12 and 19. */
public final class DepositTest {
    private static final Checks CHECKS = new Checks();

    public static void main(String[] args) {
        promise10();
        promise10Wrong();
        promise10Six();
        promise10Short();
        promise11();
        promise11Wrong();
        promise12();
        promise19();
        CHECKS.end();
    }

    private static void promise10() {
        Bench bench = new Bench(CHECKS).settlers(1, 1000);
        CHECKS.same("no other", bench.as(1).deposit(2, 5, 0, 1), 21);
        CHECKS.same("deposit", bench.as(1).deposit(0, 5, 0, 1), 0);
        CHECKS.same("coins", bench.ledger.account(1, 0), 975);
        CHECKS.same("pieces", bench.ledger.account(1, 3), 1);
        CHECKS.same("other's pieces", bench.ledger.account(0, 3), 0);
        CHECKS.same("other's coins", bench.ledger.account(0, 0), 998990);
        CHECKS.same("late times", bench.as(1).deposit(0, 6, 99999, 100000), 0);
        CHECKS.same("second", bench.ledger.depositOf(2), 6);
    }

    private static void promise10Wrong() {
        Bench bench = new Bench(CHECKS).settlers(1, 1000);
        int root = bench.ledger.root();
        int[][] wrong = {{-1, 5, 0, 1}, {6, 5, 0, 1}, {1, 5, 0, 1}, {0, 0, 0, 1}, {0, -1, 0, 1},
            {0, 1000001, 0, 1}, {0, 5, -1, 1}, {0, 5, 1, 1}, {0, 5, 2, 1}, {0, 5, 0, 100001},
            {0, 5, 100000, 100001}, {0, 5, 0, 0}, {0, 5, Integer.MIN_VALUE, 1},
            {0, 5, 0, Integer.MAX_VALUE}};
        for (int[] w : wrong) {
            CHECKS.same("wrong deposit", bench.as(1).deposit(w[0], w[1], w[2], w[3]), -1);
            bench.unchanged("wrong deposit", root);
        }
        CHECKS.same("1000000", bench.as(1).deposit(0, 1000000, 0, 1), 22);
    }

    private static void promise10Six() {
        Bench bench = new Bench(CHECKS).settlers(1, 1000);
        for (int i = 1; i <= 6; i++) {
            CHECKS.same("deposit", bench.as(i % 2).deposit(1 - i % 2, 5, 0, 9), 0);
        }
        CHECKS.same("a seventh", bench.as(1).deposit(0, 5, 0, 9), 23);
        CHECKS.same("a seventh and short", bench.as(1).deposit(0, 1000000, 0, 9), 23);
        CHECKS.same("a seventh and no other", bench.as(1).deposit(3, 5, 0, 9), 21);
        CHECKS.same("settle", bench.as(1).settle(2), 0);
        CHECKS.same("a sixth again", bench.as(1).deposit(0, 5, 0, 9), 0);
        CHECKS.same("its id", bench.ledger.depositOf(7), 5);
    }

    private static void promise10Short() {
        // After the fee 240 coins, and a reserve of 120 with the deposit.
        Bench bench = new Bench(CHECKS).settlers(1, 250);
        CHECKS.same("121 of 120", bench.as(1).deposit(0, 121, 0, 9), 22);
        CHECKS.same("coins", bench.ledger.account(1, 0), 240);
        CHECKS.same("no deposit", bench.ledger.depositOf(1), -1);
        CHECKS.same("110 of 110", bench.as(1).deposit(0, 110, 0, 9), 0);
        CHECKS.same("coins", bench.ledger.account(1, 0), 120);
        CHECKS.same("id after a claim", bench.ledger.depositOf(1), 110);
        CHECKS.same("second", bench.as(1).deposit(0, 1, 0, 9), 22);
    }

    private static void promise11() {
        Bench bench = new Bench(CHECKS).settlers(3, 1000);
        TollLedger x = bench.ledger;
        CHECKS.same("deposit", bench.as(1).deposit(2, 100, 5, 7), 0);
        CHECKS.same("deposit", bench.as(1).deposit(2, 200, 5, 7), 0);
        CHECKS.same("deposit", bench.as(1).deposit(2, 300, 0, 7), 0);
        CHECKS.same("tick", x.tick(4), 4);
        CHECKS.same("too early", bench.as(3).settle(1), 27);
        CHECKS.same("stays", x.depositOf(1), 100);
        CHECKS.same("tick", x.tick(1), 5);
        CHECKS.same("in time, by any account", bench.as(3).settle(1), 0);
        CHECKS.same("coins of 2", x.account(2, 0), 1100);
        CHECKS.same("gone", x.depositOf(1), -1);
        CHECKS.same("pieces", x.account(1, 3), 2);
        CHECKS.same("again", bench.as(3).settle(1), 26);
        CHECKS.same("tick", x.tick(1), 6);
        CHECKS.same("just in time", bench.as(2).settle(3), 0);
        CHECKS.same("coins of 2", x.account(2, 0), 1390);
        CHECKS.same("tick", x.tick(1), 7);
        CHECKS.same("too late", bench.as(2).settle(2), 0);
        CHECKS.same("coins of 1", x.account(1, 0), 570);
        CHECKS.same("coins of 2", x.account(2, 0), 1380);
        CHECKS.same("coins of 3", x.account(3, 0), 970);
    }

    private static void promise11Wrong() {
        Bench bench = new Bench(CHECKS).settlers(1, 1000);
        int root = bench.ledger.root();
        CHECKS.same("settle(0)", bench.as(1).settle(0), -1);
        CHECKS.same("settle(-1)", bench.as(1).settle(-1), -1);
        bench.unchanged("wrong settle", root);
        CHECKS.same("settle(1)", bench.as(1).settle(1), 26);
        CHECKS.same("settle(most)", bench.as(1).settle(Integer.MAX_VALUE), 26);
        CHECKS.same("coins", bench.ledger.account(1, 0), 980);
    }

    private static void promise12() {
        TollLedger x = new TollLedger();
        CHECKS.same("tick(1000)", x.tick(1000), 1000);
        CHECKS.same("tick(1001)", x.tick(1001), 1000);
        CHECKS.same("tick(-1)", x.tick(-1), 1000);
        CHECKS.same("tick(0)", x.tick(0), 1000);
        CHECKS.same("tick(1)", x.tick(1), 1001);
        CHECKS.same("tick(least)", x.tick(Integer.MIN_VALUE), 1001);
        CHECKS.same("tick(most)", x.tick(Integer.MAX_VALUE), 1001);
    }

    private static void promise19() {
        Bench bench = new Bench(CHECKS).settlers(1, 1000);
        for (int id : new int[] {-1, 0, 1, Integer.MAX_VALUE, Integer.MIN_VALUE}) {
            CHECKS.same("depositOf " + id, bench.ledger.depositOf(id), -1);
        }
        CHECKS.same("deposit", bench.as(1).deposit(0, 17, 0, 9), 0);
        CHECKS.same("deposit", bench.as(0).deposit(1, 18, 0, 9), 0);
        CHECKS.same("first", bench.ledger.depositOf(1), 17);
        CHECKS.same("second", bench.ledger.depositOf(2), 18);
        CHECKS.same("none", bench.ledger.depositOf(3), -1);
        CHECKS.same("none", bench.ledger.depositOf(0), -1);
    }
}
