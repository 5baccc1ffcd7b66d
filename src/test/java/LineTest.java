/** Promises 4, 14 and 15. */
public final class LineTest {
    private static final Checks CHECKS = new Checks();

    public static void main(String[] args) {
        promise4();
        promise4Reserve();
        promise4PieceByBalance();
        promise14();
        promise15();
        CHECKS.end();
    }

    private static void promise4() {
        Bench bench = new Bench(CHECKS).settlers(1, 5000);
        TollLedger x = bench.ledger;
        CHECKS.same("no other", bench.as(1).trust(2, 1, 5, false), 21);
        CHECKS.same("the most", bench.as(1).trust(0, 1, 100000, true), 0);
        CHECKS.same("limit", x.limit(1, 0, 1), 1100000);
        CHECKS.same("limit the other way", x.limit(0, 1, 1), 0);
        CHECKS.same("limit in the other currency", x.limit(1, 0, 2), 0);
        CHECKS.same("less", bench.as(1).trust(0, 1, 7, false), 0);
        CHECKS.same("limit", x.limit(1, 0, 1), 7);
        CHECKS.same("nothing", bench.as(1).trust(0, 1, 0, false), 0);
        CHECKS.same("limit", x.limit(1, 0, 1), 0);
        CHECKS.same("pieces", x.account(1, 3), 0);
        CHECKS.same("coins", x.account(1, 0), 4960);
    }

    private static void promise4Reserve() {
        Bench bench = new Bench(CHECKS).settlers(1, 500);
        TollLedger x = bench.ledger;
        CHECKS.same("send", bench.as(0).send(2, 129), 0);
        CHECKS.same("119 of 120", bench.as(2).trust(0, 1, 5, true), 23);
        CHECKS.same("limit", x.limit(2, 0, 1), 0);
        CHECKS.same("coins", x.account(2, 0), 119);
        CHECKS.same("send", bench.as(0).send(2, 11), 0);
        CHECKS.same("120 of 120", bench.as(2).trust(0, 1, 5, false), 0);
        CHECKS.same("no new piece", bench.as(2).trust(0, 1, 6, false), 0);
        CHECKS.same("limit", x.limit(2, 0, 1), 6);
        CHECKS.same("one more", bench.as(2).trust(1, 1, 5, false), 23);
        CHECKS.same("one less", bench.as(2).trust(0, 1, 0, false), 0);
        CHECKS.same("anew", bench.as(2).trust(0, 1, 5, false), 23);
        CHECKS.same("quiet is no piece", bench.as(2).trust(0, 1, 0, true), 0);
        CHECKS.same("limit", x.limit(2, 0, 1), 1000000);
        CHECKS.same("coins", x.account(2, 0), 70);
    }

    private static void promise4PieceByBalance() {
        Bench bench = new Bench(CHECKS).settlers(1, 500).issue(1, 1, 100);
        CHECKS.same("no limit", bench.as(1).trust(0, 1, 0, false), 0);
        CHECKS.same("still a piece", bench.ledger.account(1, 3), 1);
        CHECKS.same("send", bench.as(1).send(0, 350), 0);
        CHECKS.same("coins", bench.ledger.account(1, 0), 120);
        CHECKS.same("owned before", bench.as(1).trust(0, 1, 10, false), 0);
        CHECKS.same("coins", bench.ledger.account(1, 0), 110);
    }

    private static void promise14() {
        Bench bench = new Bench(CHECKS).settlers(2, 500).issue(1, 1, 100).issue(2, 7, 30);
        TollLedger x = bench.ledger;
        CHECKS.same("balance", x.balance(1, 0, 1), 100);
        CHECKS.same("mirrored", x.balance(0, 1, 1), -100);
        CHECKS.same("other currency", x.balance(1, 0, 2), 0);
        CHECKS.same("balance", x.balance(2, 0, 2), 30);
        CHECKS.same("mirrored", x.balance(0, 2, 2), -30);
        CHECKS.same("other line", x.balance(2, 1, 2), 0);
        wrongLines(true, x);
    }

    private static void promise15() {
        Bench bench = new Bench(CHECKS).settlers(2, 500);
        TollLedger x = bench.ledger;
        CHECKS.same("trust", bench.as(1).trust(2, 2, 345, true), 0);
        CHECKS.same("limit", x.limit(1, 2, 2), 1000345);
        CHECKS.same("other way", x.limit(2, 1, 2), 0);
        CHECKS.same("trust", bench.as(2).trust(1, 2, 12, false), 0);
        CHECKS.same("limit", x.limit(2, 1, 2), 12);
        CHECKS.same("limit", x.limit(1, 2, 2), 1000345);
        wrongLines(false, x);
    }

    private static void wrongLines(boolean balance, TollLedger x) {
        int[][] wrong = {{-1, 0, 1}, {0, -1, 1}, {6, 0, 1}, {0, 6, 1}, {1, 1, 1}, {0, 0, 2},
            {1, 0, 0}, {1, 0, 3}, {2, 1, 0}, {1, 2, 3}, {Integer.MAX_VALUE, 0, 1},
            {0, Integer.MIN_VALUE, 1}, {0, 1, Integer.MAX_VALUE}};
        for (int[] w : wrong) {
            int got = balance ? x.balance(w[0], w[1], w[2]) : x.limit(w[0], w[1], w[2]);
            CHECKS.same("no line " + w[0] + " " + w[1] + " " + w[2], got, 0);
        }
    }
}
