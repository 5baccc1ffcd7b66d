/**
 * Promises 6 and 7 at their edges: what works and what just does not. Asset 1 is currency 1, asset
 * 7 currency 2, both issued by account 0.
 */
public final class PayBoundaryTest {
    private static final Checks CHECKS = new Checks();

    public static void main(String[] args) {
        limitReachedOrPassed();
        limitBelowTheBalance();
        limitFromADebtOn();
        limitIsThatOfTheAssetAlone();
        limitOfTheIssuerIsNotAsked();
        limitIsAskedBeforeThePayeeGives();
        quietOnlyWhenBoth();
        spendingReachesMax();
        spendingByBookReachesMax();
        spendingReachesFunds();
        spendingByBookReachesFunds();
        spendingOfCoinsReachesTheReserve();
        spendingOfOwnPaperHasNoEnd();
        bookGivesAllOrNot();
        partialFromOneToAll();
        partialCutByTheBook();
        partialCutBetweenTolls();
        notPartialIsNotCut();
        payeeOwnsTheOffer();
        payerIssuesWhatItTakes();
        coinsAtFirst();
        CHECKS.end();
    }

    /** Accounts 1, 2 and 3; 1 has 400 of asset 1, 2 lets 0 owe it so much of it. */
    private static Bench scene(int limit) {
        Bench bench = new Bench(CHECKS).settlers(3, 5000).issue(1, 1, 400);
        CHECKS.same("trust", bench.as(2).trust(0, 1, limit, false), 0);
        bench.ledger.spend(1, 1000000, false);
        return bench;
    }

    private static void limitReachedOrPassed() {
        Bench bench = scene(100);
        CHECKS.same("101 of 100", bench.as(1).pay(2, 1, 101), TollLedger.DRY);
        CHECKS.same("99 of 100", bench.as(1).pay(2, 1, 99), 0);
        CHECKS.same("2 of 1", bench.as(1).pay(2, 1, 2), TollLedger.DRY);
        CHECKS.same("1 of 1", bench.as(1).pay(2, 1, 1), 0);
        CHECKS.same("1 of 0", bench.as(1).pay(2, 1, 1), TollLedger.DRY);
        CHECKS.same("balance", bench.ledger.balance(2, 0, 1), 100);
        bench = scene(0);
        CHECKS.same("no limit", bench.as(1).pay(2, 1, 1), TollLedger.DRY);
        CHECKS.same("no limit, from the issuer", bench.as(0).pay(2, 1, 1), TollLedger.DRY);
    }

    private static void limitBelowTheBalance() {
        Bench bench = scene(100);
        CHECKS.same("pay", bench.as(1).pay(2, 1, 100), 0);
        CHECKS.same("less", bench.as(2).trust(0, 1, 10, false), 0);
        CHECKS.same("stays", bench.ledger.balance(2, 0, 1), 100);
        CHECKS.same("no more", bench.as(1).pay(2, 1, 1), TollLedger.DRY);
        CHECKS.same("back", bench.as(2).pay(0, 1, 91), 0);
        CHECKS.same("2 of 1", bench.as(1).pay(2, 1, 2), TollLedger.DRY);
        CHECKS.same("1 of 1", bench.as(1).pay(2, 1, 1), 0);
    }

    /** Where 2 owes 0 thirty, there is place for thirty and its limit. */
    private static void limitFromADebtOn() {
        for (int limit = 0; limit <= 5; limit += 5) {
            Bench bench = scene(limit).issue(0, 3, 30);
            bench.ledger.spend(1, 1000, false);
            CHECKS.same("owes", bench.ledger.balance(2, 0, 1), -30);
            CHECKS.same("one more", bench.as(1).pay(2, 1, 31 + limit), TollLedger.DRY);
            CHECKS.same("all", bench.as(1).pay(2, 1, 30 + limit), 0);
            CHECKS.same("balance", bench.ledger.balance(2, 0, 1), limit);
        }
    }

    private static void limitIsThatOfTheAssetAlone() {
        Bench bench = scene(0);
        CHECKS.same("other currency", bench.as(2).trust(0, 2, 500, false), 0);
        CHECKS.same("other issuer", bench.as(2).trust(1, 1, 500, false), 0);
        CHECKS.same("the issuer's own", bench.as(0).trust(2, 1, 500, false), 0);
        CHECKS.same("pay", bench.as(1).pay(2, 1, 1), TollLedger.DRY);
    }

    private static void limitOfTheIssuerIsNotAsked() {
        Bench bench = scene(0);
        CHECKS.same("all of it", bench.as(1).pay(0, 1, 400), 0);
        CHECKS.same("balance", bench.ledger.balance(1, 0, 1), 0);
        CHECKS.same("limit of 0", bench.ledger.limit(0, 1, 1), 0);
    }

    /** 2 would have given what it gets, but its balance is asked as it was. */
    private static void limitIsAskedBeforeThePayeeGives() {
        Bench bench = scene(50);
        TollLedger x = bench.ledger;
        CHECKS.same("pay", bench.as(1).pay(2, 1, 50), 0);
        CHECKS.same("offer", bench.as(2).offer(0, 50, 1, 50, 0), 0);
        x.spend(0, 1000, true);
        CHECKS.same("full", bench.as(1).pay(2, 1, 10), TollLedger.DRY);
        CHECKS.same("one place", bench.as(2).trust(0, 1, 51, false), 0);
        CHECKS.same("pay", bench.as(1).pay(2, 1, 10), 0);
        CHECKS.same("given and got", x.balance(2, 0, 1), 50);
        CHECKS.same("for a coin", x.offerOf(1, 1), 49);
    }

    private static void quietOnlyWhenBoth() {
        for (int marks = 0; marks < 4; marks++) {
            Bench bench = scene(100);
            CHECKS.same("1", bench.as(0).trust(1, 1, 0, (marks & 1) != 0), 0);
            CHECKS.same("2", bench.as(0).trust(2, 1, 0, (marks & 2) != 0), 0);
            int due = marks == 3 ? TollLedger.DRY : 0;
            CHECKS.same("marks " + marks, bench.as(1).pay(2, 1, 1), due);
            CHECKS.same("to the issuer", bench.as(1).pay(0, 1, 1), 0);
            CHECKS.same("from the issuer", bench.as(0).pay(2, 1, 1), 0);
            CHECKS.same("3's line", bench.as(3).trust(0, 1, 9, false), 0);
            CHECKS.same("to 3, who is not quiet", bench.as(1).pay(3, 1, 1), 0);
        }
        Bench bench = scene(100);
        CHECKS.same("their own marks", bench.as(1).trust(0, 1, 900, true), 0);
        CHECKS.same("their own marks", bench.as(2).trust(0, 1, 900, true), 0);
        CHECKS.same("the other currency", bench.as(0).trust(1, 2, 0, true), 0);
        CHECKS.same("the other currency", bench.as(0).trust(2, 2, 0, true), 0);
        CHECKS.same("do not count", bench.as(1).pay(2, 1, 1), 0);
    }

    /** 11 cost 13 at a rate of 100. */
    private static void spendingReachesMax() {
        for (int max = 12; max <= 14; max++) {
            Bench bench = scene(100);
            CHECKS.same("rate", bench.as(0).rate(100), 0);
            bench.ledger.spend(1, max, false);
            CHECKS.same("max " + max, bench.as(1).pay(2, 1, 11), max < 13 ? TollLedger.DRY : 0);
            CHECKS.same("payer", bench.ledger.balance(1, 0, 1), max < 13 ? 400 : 387);
        }
    }

    /** The issuer's offer of asset 7: 3 of it for 10 of asset 1, so 2 for 7, without tolls. */
    private static void spendingByBookReachesMax() {
        for (int max = 6; max <= 8; max++) {
            Bench bench = scene(100);
            CHECKS.same("offer", bench.as(0).offer(1, 10, 7, 3, 0), 0);
            bench.ledger.spend(1, max, false);
            CHECKS.same("max " + max, bench.as(1).pay(0, 7, 2), max < 7 ? TollLedger.DRY : 0);
            CHECKS.same("payer", bench.ledger.balance(1, 0, 1), max < 7 ? 400 : 393);
        }
    }

    private static void spendingReachesFunds() {
        for (int funds = 12; funds <= 14; funds++) {
            Bench bench = scene(400);
            CHECKS.same("away", bench.as(1).pay(0, 1, 400 - funds), 0);
            CHECKS.same("rate", bench.as(0).rate(100), 0);
            int due = funds < 13 ? TollLedger.DRY : 0;
            CHECKS.same("funds " + funds, bench.as(1).pay(2, 1, 11), due);
            CHECKS.same("left", bench.ledger.balance(1, 0, 1), funds < 13 ? funds : funds - 13);
        }
    }

    private static void spendingByBookReachesFunds() {
        for (int funds = 6; funds <= 8; funds++) {
            Bench bench = scene(100);
            CHECKS.same("away", bench.as(1).pay(0, 1, 400 - funds), 0);
            CHECKS.same("offer", bench.as(0).offer(1, 10, 7, 3, 0), 0);
            int due = funds < 7 ? TollLedger.DRY : 0;
            CHECKS.same("funds " + funds, bench.as(1).pay(0, 7, 2), due);
            CHECKS.same("left", bench.ledger.balance(1, 0, 1), funds < 7 ? funds : funds - 7);
        }
    }

    /** Of 168 coins, 58 may go when the first fee is burnt, 48 when the second is. */
    private static void spendingOfCoinsReachesTheReserve() {
        Bench bench = scene(400);
        TollLedger x = bench.ledger;
        CHECKS.same("offer", bench.as(0).offer(0, 400, 1, 400, 0), 0);
        CHECKS.same("send", bench.as(0).send(4, 168), 0);
        x.spend(0, 1000, false);
        CHECKS.same("59 of 58", bench.as(4).pay(2, 1, 59), TollLedger.DRY);
        CHECKS.same("48 of 48", bench.as(4).pay(2, 1, 48), 0);
        CHECKS.same("the reserve is left", x.account(4, 0), 100);
        CHECKS.same("1 of 0", bench.as(4).pay(2, 1, 1), TollLedger.DRY);
    }

    private static void spendingOfOwnPaperHasNoEnd() {
        Bench bench = scene(400);
        TollLedger x = bench.ledger;
        CHECKS.same("offer of 1's", bench.as(1).offer(4, 100000, 1, 1, 0), 0);
        x.spend(4, 100000, false);
        CHECKS.same("3 pays with its own", bench.as(3).pay(2, 1, 1), 0);
        CHECKS.same("3 owes 1", x.balance(1, 3, 1), 100000);
        CHECKS.same("payee", x.balance(2, 0, 1), 1);
    }

    /** With a toll of 1 for each 10, 11 must be taken that 10 may come. */
    private static void bookGivesAllOrNot() {
        for (int g = 10; g <= 12; g++) {
            Bench bench = scene(400);
            CHECKS.same("rate", bench.as(0).rate(100), 0);
            CHECKS.same("offer", bench.as(0).offer(0, g, 1, g, 0), 0);
            bench.ledger.spend(0, 1000, false);
            CHECKS.same("of " + g, bench.as(3).pay(2, 1, 10), g < 11 ? TollLedger.DRY : 0);
            CHECKS.same("payee", bench.ledger.balance(2, 0, 1), g < 11 ? 0 : 10);
            CHECKS.same("rest", bench.ledger.offerOf(1, 1), g == 10 ? 10 : g == 11 ? -1 : 1);
        }
    }

    private static void partialFromOneToAll() {
        for (int limit : new int[] {0, 1, 2, 127, 128, 129, 255, 256, 257, 398, 399, 400, 401}) {
            Bench bench = scene(limit);
            bench.ledger.spend(1, 1000, true);
            CHECKS.same("400", bench.as(1).pay(2, 1, 400), limit == 0 ? TollLedger.DRY : 0);
            CHECKS.same("came", bench.ledger.balance(2, 0, 1), Math.min(limit, 400));
            CHECKS.same("went", bench.ledger.balance(1, 0, 1), 400 - Math.min(limit, 400));
        }
        Bench bench = scene(400);
        bench.ledger.spend(1, 1000, true);
        CHECKS.same("no more than v", bench.as(1).pay(2, 1, 1), 0);
        CHECKS.same("came", bench.ledger.balance(2, 0, 1), 1);
    }

    private static void partialCutByTheBook() {
        Bench bench = scene(400);
        TollLedger x = bench.ledger;
        CHECKS.same("offer", bench.as(1).offer(0, 3, 1, 2, 0), 0);
        CHECKS.same("offer", bench.as(0).offer(0, 8, 1, 5, 0), 0);
        x.spend(0, 1000, true);
        CHECKS.same("7 of 7", bench.as(3).pay(2, 1, 400), 0);
        CHECKS.same("came", x.balance(2, 0, 1), 7);
        CHECKS.same("paid", x.account(3, 0), 5000 - 10 - 11);
        CHECKS.same("empty", bench.as(3).pay(2, 1, 400), TollLedger.DRY);
    }

    /** At a rate of 100, 10 cost 11 and 11 cost 13: with 12, 10 is the greatest. */
    private static void partialCutBetweenTolls() {
        for (int max = 11; max <= 13; max++) {
            Bench bench = scene(400);
            CHECKS.same("rate", bench.as(0).rate(100), 0);
            bench.ledger.spend(1, max, true);
            CHECKS.same("max " + max, bench.as(1).pay(2, 1, 400), 0);
            CHECKS.same("came", bench.ledger.balance(2, 0, 1), max < 13 ? 10 : 11);
            CHECKS.same("went", bench.ledger.balance(1, 0, 1), max < 13 ? 389 : 387);
        }
        Bench bench = scene(400);
        CHECKS.same("rate", bench.as(0).rate(1), 0);
        bench.ledger.spend(1, 1, true);
        CHECKS.same("1 costs 2", bench.as(1).pay(2, 1, 400), TollLedger.DRY);
        bench.ledger.spend(1, 2, true);
        CHECKS.same("1 costs 2", bench.as(1).pay(2, 1, 400), 0);
        CHECKS.same("came", bench.ledger.balance(2, 0, 1), 1);
    }

    private static void notPartialIsNotCut() {
        Bench bench = scene(399);
        CHECKS.same("400 of 399", bench.as(1).pay(2, 1, 400), TollLedger.DRY);
        CHECKS.same("nothing came", bench.ledger.balance(2, 0, 1), 0);
        bench.ledger.spend(1, 398, false);
        CHECKS.same("399 with 398", bench.as(1).pay(2, 1, 399), TollLedger.DRY);
        bench.ledger.spend(1, 399, false);
        CHECKS.same("399 of 399", bench.as(1).pay(2, 1, 399), 0);
    }

    /** 2 loses 11 and a toll of 2, and gets 10. */
    private static void payeeOwnsTheOffer() {
        Bench bench = scene(400);
        TollLedger x = bench.ledger;
        CHECKS.same("pay", bench.as(1).pay(2, 1, 50), 0);
        CHECKS.same("rate", bench.as(0).rate(100), 0);
        CHECKS.same("offer", bench.as(2).offer(0, 50, 1, 50, 0), 0);
        int coins = x.account(2, 0);
        x.spend(0, 1000, false);
        CHECKS.same("pay", bench.as(3).pay(2, 1, 10), 0);
        CHECKS.same("balance", x.balance(2, 0, 1), 50 - 13 + 10);
        CHECKS.same("price", x.account(2, 0), coins + 11);
        CHECKS.same("rest", x.offerOf(1, 1), 39);
    }

    /** 0 buys its own paper from 1 to pay 2 with it: no toll anywhere. */
    private static void payerIssuesWhatItTakes() {
        Bench bench = scene(400);
        TollLedger x = bench.ledger;
        CHECKS.same("rate", bench.as(0).rate(200), 0);
        CHECKS.same("offer", bench.as(1).offer(0, 400, 1, 400, 0), 0);
        int coins = x.account(0, 0);
        x.spend(0, 1000, false);
        CHECKS.same("pay", bench.as(0).pay(2, 1, 400), 0);
        CHECKS.same("owner", x.balance(1, 0, 1), 0);
        CHECKS.same("payee", x.balance(2, 0, 1), 400);
        CHECKS.same("coins", x.account(0, 0), coins - 10 - 400);
    }

    /** At first: 1000000 of the coin, not partial. */
    private static void coinsAtFirst() {
        Bench bench = new Bench(CHECKS).settlers(1, 100000);
        TollLedger x = bench.ledger;
        CHECKS.same("trust", bench.as(1).trust(0, 1, 400, false), 0);
        CHECKS.same("trust", bench.as(0).trust(1, 1, 400, false), 0);
        CHECKS.same("offer", bench.as(1).offer(0, 100000, 2, 200, 0), 0);
        CHECKS.same("send", bench.as(0).send(2, 300000), 0);
        CHECKS.same("not partial", bench.as(2).pay(0, 2, 201), TollLedger.DRY);
        CHECKS.same("coins", bench.as(2).pay(0, 2, 200), 0);
        CHECKS.same("coins", x.account(2, 0), 300000 - 20 - 100000);
        CHECKS.same("payee", x.balance(0, 1, 1), 200);
    }
}
