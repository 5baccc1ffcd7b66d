/** Terms: assets, lines, pieces, reserve, funds and tolls, at the edges that the document names. */
public final class TermsTest {
    private static final Checks CHECKS = new Checks();

    public static void main(String[] args) {
        assetsAndTheirIssuers();
        balanceIsAlwaysMinusTheOther();
        aLimitAboveZeroIsAPiece();
        aBalanceAboveZeroIsAPiece();
        bothAreOnePiece();
        offersAndDepositsAreTheirMakersPieces();
        everyPieceAsksTwentyMore();
        coinFundsAreNotLessThanZero();
        otherFundsAreNotLessThanZero();
        issuersFundsStayTheSame();
        tollIsRoundedUp();
        tollIsOnlyBetweenOthers();
        greatAmountsToAnIssuerHaveNoToll();
        coinHasNoToll();
        rateCountsFromTheNextMove();
        CHECKS.end();
    }

    /** The first and the last asset of each currency, and all between. */
    private static void assetsAndTheirIssuers() {
        for (int k = 1; k <= 12; k++) {
            int issuer = k <= 6 ? k - 1 : k - 7;
            int currency = k <= 6 ? 1 : 2;
            int holder = issuer == 3 ? 4 : 3;
            Bench bench = new Bench(CHECKS).settlers(5, 5000).issue(holder, k, 5);
            TollLedger x = bench.ledger;
            for (int a = 0; a < 6; a++) {
                int due = a == issuer ? 1000000000 : a == holder ? 5 : 0;
                CHECKS.same("funds of " + a + " in " + k, x.funds(a, k), due);
            }
            CHECKS.same("balance in " + k, x.balance(holder, issuer, currency), 5);
            CHECKS.same("other currency", x.balance(holder, issuer, 3 - currency), 0);
        }
    }

    private static void balanceIsAlwaysMinusTheOther() {
        Bench bench = new Bench(CHECKS).settlers(1, 5000).issue(1, 1, 100).issue(0, 2, 0);
        TollLedger x = bench.ledger;
        CHECKS.same("1 is owed", x.balance(1, 0, 1), 100);
        CHECKS.same("0 owes", x.balance(0, 1, 1), -100);
        // Paper of 1 goes to 0 over the same line, and turns it round.
        x.spend(2, 1000, false);
        CHECKS.same("pay", bench.as(1).pay(0, 2, 100), 0);
        CHECKS.same("even", x.balance(1, 0, 1), 0);
        CHECKS.same("even", x.balance(0, 1, 1), 0);
        CHECKS.same("pay", bench.as(1).pay(0, 2, 1), 0);
        CHECKS.same("1 owes", x.balance(1, 0, 1), -1);
        CHECKS.same("0 is owed", x.balance(0, 1, 1), 1);
    }

    private static void aLimitAboveZeroIsAPiece() {
        Bench bench = new Bench(CHECKS).settlers(2, 5000);
        TollLedger x = bench.ledger;
        CHECKS.same("limit 0", bench.as(1).trust(2, 1, 0, false), 0);
        CHECKS.same("pieces", x.account(1, 3), 0);
        CHECKS.same("limit 0, quiet", bench.as(1).trust(2, 1, 0, true), 0);
        CHECKS.same("pieces", x.account(1, 3), 0);
        CHECKS.same("limit 1", bench.as(1).trust(2, 1, 1, false), 0);
        CHECKS.same("pieces", x.account(1, 3), 1);
        CHECKS.same("pieces of the other", x.account(2, 3), 0);
        CHECKS.same("the other currency", bench.as(1).trust(2, 2, 1, false), 0);
        CHECKS.same("pieces", x.account(1, 3), 2);
        CHECKS.same("the other way", bench.as(2).trust(1, 1, 1, false), 0);
        CHECKS.same("pieces", x.account(1, 3), 2);
        CHECKS.same("pieces of the other", x.account(2, 3), 1);
        CHECKS.same("limit 0", bench.as(1).trust(2, 1, 0, false), 0);
        CHECKS.same("pieces", x.account(1, 3), 1);
    }

    private static void aBalanceAboveZeroIsAPiece() {
        Bench bench = new Bench(CHECKS).settlers(2, 5000).issue(1, 1, 1);
        TollLedger x = bench.ledger;
        CHECKS.same("no limit", bench.as(1).trust(0, 1, 0, false), 0);
        CHECKS.same("balance 1", x.account(1, 3), 1);
        CHECKS.same("what 0 owes is no piece of 0", x.account(0, 3), 0);
        x.spend(1, 1000, false);
        CHECKS.same("pay", bench.as(1).pay(0, 1, 1), 0);
        CHECKS.same("balance 0", x.account(1, 3), 0);
    }

    private static void bothAreOnePiece() {
        Bench bench = new Bench(CHECKS).settlers(1, 5000).issue(1, 1, 1);
        CHECKS.same("limit and balance", bench.ledger.account(1, 3), 1);
        bench.issue(1, 7, 1);
        CHECKS.same("in two currencies", bench.ledger.account(1, 3), 2);
    }

    private static void offersAndDepositsAreTheirMakersPieces() {
        Bench bench = new Bench(CHECKS).settlers(2, 5000);
        TollLedger x = bench.ledger;
        CHECKS.same("offer", bench.as(1).offer(3, 5, 0, 5, 0), 0);
        CHECKS.same("deposit", bench.as(1).deposit(2, 5, 0, 5), 0);
        CHECKS.same("two pieces", x.account(1, 3), 2);
        CHECKS.same("none of the one it is for", x.account(2, 3), 0);
        CHECKS.same("settle", bench.as(2).settle(1), 0);
        CHECKS.same("one piece", x.account(1, 3), 1);
        // Taken whole: the offer is a piece no longer, the paper that it brought is one.
        CHECKS.same("taken", bench.as(2).offer(0, 5, 3, 5, 2), 0);
        CHECKS.same("one piece", x.account(1, 3), 1);
        x.spend(3, 1000, false);
        CHECKS.same("paid back", bench.as(1).pay(2, 3, 5), 0);
        CHECKS.same("no piece", x.account(1, 3), 0);
    }

    /** Ten lines, twelve offers and six deposits, one after the other. */
    private static void everyPieceAsksTwentyMore() {
        Bench bench = new Bench(CHECKS).settlers(5, 50000);
        TollLedger x = bench.ledger;
        int fees = 0;
        CHECKS.same("no piece", x.funds(1, 0), 50000 - 100);
        for (int pieces = 1; pieces <= 28; pieces++) {
            int b = new int[] {0, 2, 3, 4, 5}[pieces % 5];
            if (pieces <= 10) {
                CHECKS.same("line", bench.as(1).trust(b, pieces <= 5 ? 1 : 2, 1, false), 0);
            } else if (pieces <= 22) {
                CHECKS.same("offer", bench.as(1).offer(3, 5, 0, 5, 0), 0);
            } else {
                CHECKS.same("deposit", bench.as(1).deposit(b, 1, 0, 5), 0);
            }
            fees += pieces <= 22 ? 10 : 11;
            CHECKS.same("pieces", x.account(1, 3), pieces);
            CHECKS.same("funds", x.funds(1, 0), 50000 - fees - 100 - 20 * pieces);
        }
    }

    private static void coinFundsAreNotLessThanZero() {
        Bench bench = new Bench(CHECKS).settlers(1, 111);
        TollLedger x = bench.ledger;
        CHECKS.same("11 above", x.funds(1, 0), 11);
        CHECKS.same("rate", bench.as(1).rate(1), 0);
        CHECKS.same("1 above", x.funds(1, 0), 1);
        CHECKS.same("rate", bench.as(1).rate(1), 0);
        CHECKS.same("9 below", x.funds(1, 0), 0);
        CHECKS.same("send", bench.as(0).send(1, 9), 0);
        CHECKS.same("as the reserve", x.funds(1, 0), 0);
        CHECKS.same("send", bench.as(0).send(1, 1), 0);
        CHECKS.same("1 above", x.funds(1, 0), 1);
    }

    private static void otherFundsAreNotLessThanZero() {
        Bench bench = new Bench(CHECKS).settlers(1, 5000).issue(0, 2, 1).issue(1, 1, 0);
        TollLedger x = bench.ledger;
        CHECKS.same("1 owes 1", x.balance(1, 0, 1), -1);
        CHECKS.same("not less than 0", x.funds(1, 1), 0);
        CHECKS.same("what it is owed", x.funds(0, 2), 1);
        x.spend(1, 1000, false);
        CHECKS.same("pay", bench.as(0).pay(1, 1, 1), 0);
        CHECKS.same("even", x.funds(1, 1), 0);
        CHECKS.same("even", x.funds(0, 2), 0);
        CHECKS.same("pay", bench.as(0).pay(1, 1, 1), 0);
        CHECKS.same("1", x.funds(1, 1), 1);
        CHECKS.same("not less than 0", x.funds(0, 2), 0);
    }

    private static void issuersFundsStayTheSame() {
        Bench bench = new Bench(CHECKS).settlers(1, 5000).issue(1, 1, 400).issue(0, 2, 400);
        CHECKS.same("0", bench.ledger.funds(0, 1), 1000000000);
        CHECKS.same("1", bench.ledger.funds(1, 2), 1000000000);
        CHECKS.same("1, currency 2", bench.ledger.funds(1, 8), 1000000000);
    }

    /** Each row: a rate, what is moved, its toll. */
    private static void tollIsRoundedUp() {
        int[][] rows = {{0, 1, 0}, {0, 400, 0}, {1, 1, 1}, {1, 400, 1}, {2, 400, 1},
            {3, 333, 1}, {3, 334, 2}, {100, 10, 1}, {100, 11, 2}, {100, 9, 1}, {125, 8, 1},
            {125, 9, 2}, {199, 5, 1}, {199, 6, 2}, {200, 5, 1}, {200, 6, 2}, {200, 400, 80},
            {200, 1, 1}, {199, 400, 80}, {198, 400, 80}, {197, 400, 79}};
        for (int[] row : rows) {
            Bench bench = new Bench(CHECKS).settlers(2, 5000);
            bench.issue(1, 1, 400).issue(1, 1, 400).issue(2, 1, 0);
            TollLedger x = bench.ledger;
            CHECKS.same("rate", bench.as(0).rate(row[0]), 0);
            x.spend(1, 1000, false);
            String what = row[1] + " at " + row[0];
            CHECKS.same(what, bench.as(1).pay(2, 1, row[1]), 0);
            CHECKS.same("payee of " + what, x.balance(2, 0, 1), row[1]);
            CHECKS.same("payer of " + what, x.balance(1, 0, 1), 800 - row[1] - row[2]);
        }
    }

    private static void tollIsOnlyBetweenOthers() {
        Bench bench = new Bench(CHECKS).settlers(2, 5000).issue(1, 1, 100).issue(2, 1, 0);
        TollLedger x = bench.ledger;
        CHECKS.same("rate of the issuer", bench.as(0).rate(200), 0);
        CHECKS.same("from the issuer", bench.as(0).pay(2, 1, 50), 0);
        CHECKS.same("payee", x.balance(2, 0, 1), 50);
        CHECKS.same("to the issuer", bench.as(1).pay(0, 1, 50), 0);
        CHECKS.same("payer", x.balance(1, 0, 1), 50);
        CHECKS.same("no rate", bench.as(0).rate(0), 0);
        CHECKS.same("rate of the payer", bench.as(1).rate(200), 0);
        CHECKS.same("rate of the payee", bench.as(2).rate(200), 0);
        CHECKS.same("between others", bench.as(1).pay(2, 1, 50), 0);
        CHECKS.same("payer", x.balance(1, 0, 1), 0);
        CHECKS.same("payee", x.balance(2, 0, 1), 100);
    }

    private static void greatAmountsToAnIssuerHaveNoToll() {
        Bench bench = new Bench(CHECKS).settlers(1, 300000);
        TollLedger x = bench.ledger;
        CHECKS.same("rate", bench.as(0).rate(200), 0);
        CHECKS.same("offer", bench.as(0).offer(0, 100000, 1, 100000, 0), 0);
        CHECKS.same("bought", bench.as(1).offer(1, 100000, 0, 100000, 2), 0);
        CHECKS.same("balance", x.balance(1, 0, 1), 100000);
        CHECKS.same("offer", bench.as(1).offer(0, 60000, 1, 60000, 0), 0);
        CHECKS.same("taken back", bench.as(0).offer(1, 60000, 0, 60000, 2), 0);
        CHECKS.same("balance", x.balance(1, 0, 1), 40000);
        CHECKS.same("offer", bench.as(0).offer(1, 50000, 7, 50000, 0), 0);
        CHECKS.same("paid with", bench.as(1).offer(7, 50000, 1, 50000, 1), 0);
        CHECKS.same("all of it", x.balance(1, 0, 1), 0);
        CHECKS.same("got", x.balance(1, 0, 2), 40000);
    }

    private static void coinHasNoToll() {
        Bench bench = new Bench(CHECKS).settlers(2, 5000).issue(1, 1, 100).issue(2, 1, 0);
        TollLedger x = bench.ledger;
        for (int a = 0; a <= 2; a++) {
            CHECKS.same("rate", bench.as(a).rate(200), 0);
        }
        int coins = x.account(2, 0);
        CHECKS.same("send", bench.as(1).send(2, 100), 0);
        CHECKS.same("all arrives", x.account(2, 0), coins + 100);
        CHECKS.same("offer", bench.as(1).offer(0, 50, 1, 50, 0), 0);
        coins = x.account(2, 0);
        CHECKS.same("crossed", bench.as(2).offer(1, 50, 0, 50, 2), 0);
        CHECKS.same("the price alone", x.account(2, 0), coins - 10 - 50);
        CHECKS.same("paper has a toll", x.balance(1, 0, 1), 100 - 50 - 10);
    }

    private static void rateCountsFromTheNextMove() {
        Bench bench = new Bench(CHECKS).settlers(2, 5000).issue(1, 1, 100).issue(2, 1, 0);
        TollLedger x = bench.ledger;
        CHECKS.same("pay", bench.as(1).pay(2, 1, 10), 0);
        CHECKS.same("rate 200", bench.as(0).rate(200), 0);
        CHECKS.same("as it was", x.balance(1, 0, 1), 90);
        CHECKS.same("pay", bench.as(1).pay(2, 1, 10), 0);
        CHECKS.same("with toll", x.balance(1, 0, 1), 78);
        CHECKS.same("rate 0", bench.as(0).rate(0), 0);
        CHECKS.same("pay", bench.as(1).pay(2, 1, 10), 0);
        CHECKS.same("without toll", x.balance(1, 0, 1), 68);
        CHECKS.same("payee", x.balance(2, 0, 1), 30);
    }
}
