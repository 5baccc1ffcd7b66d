/** Promises 10, 11, 12 and 19. */
public final class DepositTest {
    private static final Checks CHECKS = new Checks();

    public static void main(String[] args) {
        promise10();
        promise10Six();
        promise10Short();
        promise10ReserveOfOtherPieces();
        promise11();
        promise11Times();
        promise11ByWhomever();
        promise11WithItsLastCoins();
        promise12();
        promise19();
        CHECKS.end();
    }

    private static void promise10() {
        Bench bench = new Bench(CHECKS).settlers(1, 1000);
        CHECKS.same("no other", bench.as(1).deposit(2, 5, 0, 1), 21);
        CHECKS.same("deposit", bench.as(1).deposit(0, 5, 0, 1), 0);
        CHECKS.same("coins", bench.ledger.account(1, 0), 975);
        CHECKS.same("pieces", bench.ledger.account(1, 3), 1);
        CHECKS.same("other's pieces", bench.ledger.account(0, 3), 0);
        CHECKS.same("other's coins", bench.ledger.account(0, 0), 998990);
        CHECKS.same("late times", bench.as(1).deposit(0, 6, 99999, 100000), 0);
        CHECKS.same("second", bench.ledger.depositOf(2), 6);
    }

    private static void promise10Six() {
        Bench bench = new Bench(CHECKS).settlers(1, 1000);
        for (int i = 1; i <= 6; i++) {
            CHECKS.same("deposit", bench.as(i % 2).deposit(1 - i % 2, 5, 0, 9), 0);
        }
        CHECKS.same("a seventh", bench.as(1).deposit(0, 5, 0, 9), 23);
        CHECKS.same("a seventh and short", bench.as(1).deposit(0, 1000000, 0, 9), 23);
        CHECKS.same("a seventh and no other", bench.as(1).deposit(3, 5, 0, 9), 21);
        CHECKS.same("settle", bench.as(1).settle(2), 0);
        CHECKS.same("a sixth again", bench.as(1).deposit(0, 5, 0, 9), 0);
        CHECKS.same("its id", bench.ledger.depositOf(7), 5);
    }

    private static void promise10Short() {
        // After the fee 240 coins, and a reserve of 120 with the deposit.
        Bench bench = new Bench(CHECKS).settlers(1, 250);
        CHECKS.same("121 of 120", bench.as(1).deposit(0, 121, 0, 9), 22);
        CHECKS.same("coins", bench.ledger.account(1, 0), 240);
        CHECKS.same("no deposit", bench.ledger.depositOf(1), -1);
        CHECKS.same("110 of 110", bench.as(1).deposit(0, 110, 0, 9), 0);
        CHECKS.same("coins", bench.ledger.account(1, 0), 120);
        CHECKS.same("id after a claim", bench.ledger.depositOf(1), 110);
        CHECKS.same("second", bench.as(1).deposit(0, 1, 0, 9), 22);
    }

    private static void promise11() {
        Bench bench = new Bench(CHECKS).settlers(3, 1000);
        TollLedger x = bench.ledger;
        CHECKS.same("deposit", bench.as(1).deposit(2, 100, 5, 7), 0);
        CHECKS.same("deposit", bench.as(1).deposit(2, 200, 5, 7), 0);
        CHECKS.same("deposit", bench.as(1).deposit(2, 300, 0, 7), 0);
        CHECKS.same("tick", x.tick(4), 4);
        CHECKS.same("too early", bench.as(3).settle(1), 27);
        CHECKS.same("stays", x.depositOf(1), 100);
        CHECKS.same("tick", x.tick(1), 5);
        CHECKS.same("in time, by any account", bench.as(3).settle(1), 0);
        CHECKS.same("coins of 2", x.account(2, 0), 1100);
        CHECKS.same("gone", x.depositOf(1), -1);
        CHECKS.same("pieces", x.account(1, 3), 2);
        CHECKS.same("again", bench.as(3).settle(1), 26);
        CHECKS.same("tick", x.tick(1), 6);
        CHECKS.same("just in time", bench.as(2).settle(3), 0);
        CHECKS.same("coins of 2", x.account(2, 0), 1390);
        CHECKS.same("tick", x.tick(1), 7);
        CHECKS.same("too late", bench.as(2).settle(2), 0);
        CHECKS.same("coins of 1", x.account(1, 0), 570);
        CHECKS.same("coins of 2", x.account(2, 0), 1380);
        CHECKS.same("coins of 3", x.account(3, 0), 970);
    }

    /** With a line and an offer of its own, the deposit is the third piece: 160. */
    private static void promise10ReserveOfOtherPieces() {
        for (int v = 90; v <= 91; v++) {
            Bench bench = new Bench(CHECKS).settlers(1, 280);
            CHECKS.same("line", bench.as(1).trust(0, 1, 5, false), 0);
            CHECKS.same("offer", bench.as(1).offer(0, 5, 2, 5, 0), 0);
            CHECKS.same("v " + v, bench.as(1).deposit(0, v, 0, 9), v == 90 ? 0 : TollLedger.SHORT);
            CHECKS.same("coins", bench.ledger.account(1, 0), v == 90 ? 160 : 250);
            CHECKS.same("pieces", bench.ledger.account(1, 3), v == 90 ? 3 : 2);
        }
    }

    /** Each row: after, until, the clock, and who gets the coins (-1: it is not the time). */
    private static void promise11Times() {
        int[][] rows = {{0, 1, 0, 2}, {0, 1, 1, 1}, {0, 100000, 0, 2}, {5, 6, 4, -1}, {5, 6, 5, 2},
            {5, 6, 6, 1}, {5, 8, 0, -1}, {5, 8, 7, 2}, {5, 8, 8, 1}, {5, 8, 9, 1},
            {99999, 100000, 99998, -1}, {99999, 100000, 99999, 2}, {99999, 100000, 100000, 1},
            {0, 100000, 99999, 2}, {0, 100000, 100000, 1}, {0, 100000, 150000, 1}};
        for (int[] row : rows) {
            Bench bench = new Bench(CHECKS).settlers(3, 1000);
            TollLedger x = bench.ledger;
            CHECKS.same("deposit", bench.as(1).deposit(2, 100, row[0], row[1]), 0);
            for (int left = row[2]; left > 0; left -= 1000) {
                x.tick(Math.min(left, 1000));
            }
            CHECKS.same("clock", x.tick(0), row[2]);
            String what = "from " + row[0] + " until " + row[1] + " at " + row[2];
            CHECKS.same(what, bench.as(3).settle(1), row[3] < 0 ? TollLedger.TIME : 0);
            CHECKS.same("maker, " + what, x.account(1, 0), row[3] == 1 ? 990 : 890);
            CHECKS.same("other, " + what, x.account(2, 0), row[3] == 2 ? 1100 : 1000);
            CHECKS.same("settler, " + what, x.account(3, 0), 990);
            CHECKS.same("deposit, " + what, x.depositOf(1), row[3] < 0 ? 100 : -1);
            CHECKS.same("maker's pieces, " + what, x.account(1, 3), row[3] < 0 ? 1 : 0);
        }
    }

    private static void promise11ByWhomever() {
        for (int settler = 0; settler <= 3; settler++) {
            Bench bench = new Bench(CHECKS).settlers(3, 1000);
            TollLedger x = bench.ledger;
            CHECKS.same("deposit", bench.as(1).deposit(2, 100, 0, 5), 0);
            CHECKS.same("deposit", bench.as(1).deposit(2, 200, 0, 9), 0);
            x.tick(5);
            CHECKS.same("back", bench.as(settler).settle(1), 0);
            CHECKS.same("to the other", bench.as(settler).settle(2), 0);
            CHECKS.same("maker", x.account(1, 0), 1000 - 20 - 200 - (settler == 1 ? 20 : 0));
            CHECKS.same("other", x.account(2, 0), 1000 + 200 - (settler == 2 ? 20 : 0));
        }
    }

    /** Its reserve does not hinder an account to settle, and what comes counts at once. */
    private static void promise11WithItsLastCoins() {
        Bench bench = new Bench(CHECKS).settlers(1, 100);
        TollLedger x = bench.ledger;
        CHECKS.same("deposit", bench.as(0).deposit(1, 1, 0, 5), 0);
        CHECKS.same("deposit", bench.as(0).deposit(1, 10, 0, 5), 0);
        for (int r = 1; r <= 9; r++) {
            CHECKS.same("rate", bench.as(1).rate(r), 0);
        }
        CHECKS.same("with 10 coins", bench.as(1).settle(2), 0);
        CHECKS.same("coins", x.account(1, 0), 10);
        CHECKS.same("again", bench.as(1).settle(1), 0);
        CHECKS.same("coins", x.account(1, 0), 1);
        CHECKS.same("poor", bench.as(1).settle(3), TollLedger.POOR);
    }

    private static void promise12() {
        TollLedger x = new TollLedger();
        CHECKS.same("tick(1000)", x.tick(1000), 1000);
        CHECKS.same("tick(1001)", x.tick(1001), 1000);
        CHECKS.same("tick(-1)", x.tick(-1), 1000);
        CHECKS.same("tick(0)", x.tick(0), 1000);
        CHECKS.same("tick(1)", x.tick(1), 1001);
        CHECKS.same("tick(least)", x.tick(Integer.MIN_VALUE), 1001);
        CHECKS.same("tick(most)", x.tick(Integer.MAX_VALUE), 1001);
    }

    private static void promise19() {
        Bench bench = new Bench(CHECKS).settlers(1, 1000);
        for (int id : new int[] {-1, 0, 1, Integer.MAX_VALUE, Integer.MIN_VALUE}) {
            CHECKS.same("depositOf " + id, bench.ledger.depositOf(id), -1);
        }
        CHECKS.same("deposit", bench.as(1).deposit(0, 17, 0, 9), 0);
        CHECKS.same("deposit", bench.as(0).deposit(1, 18, 0, 9), 0);
        CHECKS.same("first", bench.ledger.depositOf(1), 17);
        CHECKS.same("second", bench.ledger.depositOf(2), 18);
        CHECKS.same("none", bench.ledger.depositOf(3), -1);
        CHECKS.same("none", bench.ledger.depositOf(0), -1);
    }
}
