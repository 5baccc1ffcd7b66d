/** Promises 6, 7 and 16. Asset 1 is currency 1, asset 7 currency 2, both issued by account 0. */
public final class PayTest {
    private static final Checks CHECKS = new Checks();

    public static void main(String[] args) {
        promise6();
        promise6AtFirst();
        promise7Limit();
        promise7Toll();
        promise7FundsAndMax();
        promise7Partial();
        promise7Quiet();
        promise7OwedBefore();
        promise7ByBookWithTolls();
        promise7ByBookOwnersFunds();
        promise7ByBookSameOwner();
        promise7ByBookUnfunded();
        promise7ByBookOwnOffer();
        promise7ByBookCoins();
        promise7ByBookIssuers();
        promise16();
        CHECKS.end();
    }

    private static void promise6() {
        Bench bench = new Bench(CHECKS).settlers(2, 5000).issue(1, 1, 100).issue(2, 1, 0);
        TollLedger x = bench.ledger;
        CHECKS.yes("spend", x.spend(1, 20, false));
        CHECKS.no("spend(-1)", x.spend(-1, 1000, true));
        CHECKS.no("spend(13)", x.spend(13, 1000, true));
        CHECKS.no("max 0", x.spend(7, 0, true));
        CHECKS.no("max -1", x.spend(7, -1, true));
        CHECKS.no("max 1000001", x.spend(7, 1000001, true));
        CHECKS.same("still at most 20, not partial", bench.as(1).pay(2, 1, 21), 24);
        CHECKS.same("still asset 1", bench.as(1).pay(2, 1, 20), 0);
        CHECKS.same("for all that follow", bench.as(2).pay(1, 1, 20), 0);
        CHECKS.yes("spend(12, 1000000)", x.spend(12, 1000000, false));
        CHECKS.same("asset 12", bench.as(1).pay(2, 1, 20), 24);
        CHECKS.yes("spend(0, 1)", x.spend(0, 1, false));
        CHECKS.yes("spend(1, 1)", x.spend(1, 1, true));
        CHECKS.same("partial", bench.as(1).pay(2, 1, 20), 0);
        CHECKS.same("at most 1", x.balance(2, 0, 1), 1);
    }

    private static void promise6AtFirst() {
        Bench bench = new Bench(CHECKS).settlers(2, 400000);
        TollLedger x = bench.ledger;
        CHECKS.same("trust", bench.as(2).trust(0, 1, 1000, false), 0);
        CHECKS.same("offer", bench.as(0).offer(0, 100000, 1, 100, 0), 0);
        CHECKS.same("not partial", bench.as(1).pay(2, 1, 101), 24);
        CHECKS.same("100000 coins", bench.as(1).pay(2, 1, 100), 0);
        CHECKS.same("coins", x.account(1, 0), 299980);
        CHECKS.same("coins", x.account(0, 0), 1000000 - 800000 - 30 + 100000);
        CHECKS.same("balance", x.balance(2, 0, 1), 100);
    }

    private static void promise7Limit() {
        Bench bench = new Bench(CHECKS).settlers(2, 5000).issue(1, 1, 100);
        TollLedger x = bench.ledger;
        x.spend(1, 1000, false);
        CHECKS.same("no limit", bench.as(1).pay(2, 1, 1), 24);
        CHECKS.same("trust", bench.as(2).trust(0, 1, 50, false), 0);
        CHECKS.same("trust in the other currency", bench.as(2).trust(0, 2, 500, false), 0);
        CHECKS.same("51 of 50", bench.as(1).pay(2, 1, 51), 24);
        CHECKS.same("30 of 50", bench.as(1).pay(2, 1, 30), 0);
        CHECKS.same("21 of 20", bench.as(1).pay(2, 1, 21), 24);
        CHECKS.same("20 of 20", bench.as(1).pay(2, 1, 20), 0);
        CHECKS.same("to the issuer", bench.as(2).pay(0, 1, 50), 0);
        CHECKS.same("balance", x.balance(0, 2, 1), 0);
        CHECKS.same("balance", x.balance(1, 0, 1), 50);
    }

    private static void promise7Toll() {
        Bench bench = new Bench(CHECKS).settlers(2, 5000).issue(1, 1, 400).issue(2, 1, 0);
        TollLedger x = bench.ledger;
        CHECKS.same("rate", bench.as(0).rate(1), 0);
        CHECKS.same("rate of another", bench.as(2).rate(200), 0);
        CHECKS.same("1", bench.as(1).pay(2, 1, 1), 0);
        CHECKS.same("toll 1", x.balance(1, 0, 1), 398);
        CHECKS.same("rate", bench.as(0).rate(100), 0);
        CHECKS.same("10", bench.as(1).pay(2, 1, 10), 0);
        CHECKS.same("toll 1", x.balance(1, 0, 1), 387);
        CHECKS.same("11", bench.as(1).pay(2, 1, 11), 0);
        CHECKS.same("toll 2", x.balance(1, 0, 1), 374);
        CHECKS.same("balance", x.balance(2, 0, 1), 22);
        CHECKS.same("from the issuer", bench.as(0).pay(2, 1, 100), 0);
        CHECKS.same("balance", x.balance(2, 0, 1), 122);
        CHECKS.same("to the issuer", bench.as(1).pay(0, 1, 100), 0);
        CHECKS.same("balance", x.balance(1, 0, 1), 274);
    }

    private static void promise7FundsAndMax() {
        Bench bench = new Bench(CHECKS).settlers(2, 5000).issue(1, 1, 26).issue(2, 1, 0);
        TollLedger x = bench.ledger;
        CHECKS.same("rate", bench.as(0).rate(100), 0);
        x.spend(1, 12, false);
        CHECKS.same("13 of at most 12", bench.as(1).pay(2, 1, 11), 24);
        x.spend(1, 13, false);
        CHECKS.same("13 of at most 13", bench.as(1).pay(2, 1, 11), 0);
        x.spend(1, 1000, false);
        CHECKS.same("14 of 13", bench.as(1).pay(2, 1, 12), 24);
        CHECKS.same("13 of 13", bench.as(1).pay(2, 1, 11), 0);
        CHECKS.same("balance", x.balance(1, 0, 1), 0);
        CHECKS.same("1 of 0", bench.as(1).pay(0, 1, 1), 24);
        CHECKS.same("coins", x.account(1, 0), 4940);
    }

    private static void promise7Partial() {
        Bench bench = new Bench(CHECKS).settlers(2, 5000).issue(1, 1, 400);
        TollLedger x = bench.ledger;
        CHECKS.same("rate", bench.as(0).rate(100), 0);
        x.spend(1, 12, true);
        CHECKS.same("limit 0", bench.as(1).pay(2, 1, 400), 24);
        CHECKS.same("trust", bench.as(2).trust(0, 1, 17, false), 0);
        CHECKS.same("cut by max", bench.as(1).pay(2, 1, 400), 0);
        CHECKS.same("10 come", x.balance(2, 0, 1), 10);
        CHECKS.same("11 go", x.balance(1, 0, 1), 389);
        x.spend(1, 1000, true);
        CHECKS.same("cut by the limit", bench.as(1).pay(2, 1, 400), 0);
        CHECKS.same("7 come", x.balance(2, 0, 1), 17);
        CHECKS.same("8 go", x.balance(1, 0, 1), 381);
        CHECKS.same("trust", bench.as(2).trust(0, 1, 1000, false), 0);
        CHECKS.same("cut by the funds", bench.as(1).pay(2, 1, 400), 0);
        CHECKS.same("346 come", x.balance(2, 0, 1), 363);
        CHECKS.same("381 go", x.balance(1, 0, 1), 0);
        CHECKS.same("not cut", bench.as(2).pay(0, 1, 5), 0);
        CHECKS.same("5 go", x.balance(2, 0, 1), 358);
        x.spend(1, 1, true);
        CHECKS.same("trust", bench.as(1).trust(0, 1, 1000, false), 0);
        CHECKS.same("not even 1", bench.as(2).pay(1, 1, 9), 24);
    }

    private static void promise7Quiet() {
        Bench bench = new Bench(CHECKS).settlers(2, 5000).issue(1, 1, 100).issue(2, 1, 100);
        TollLedger x = bench.ledger;
        CHECKS.same("quiet 1", bench.as(0).trust(1, 1, 0, true), 0);
        x.spend(1, 1000, true);
        CHECKS.same("one is quiet", bench.as(1).pay(2, 1, 10), 0);
        CHECKS.same("one is quiet", bench.as(2).pay(1, 1, 10), 0);
        CHECKS.same("quiet in currency 2", bench.as(0).trust(2, 2, 0, true), 0);
        CHECKS.same("quiet from the other side", bench.as(2).trust(0, 1, 500, true), 0);
        CHECKS.same("one is quiet", bench.as(1).pay(2, 1, 10), 0);
        CHECKS.same("quiet 2", bench.as(0).trust(2, 1, 0, true), 0);
        CHECKS.same("both are quiet", bench.as(1).pay(2, 1, 10), 24);
        CHECKS.same("both are quiet", bench.as(2).pay(1, 1, 10), 24);
        CHECKS.same("to the issuer", bench.as(1).pay(0, 1, 10), 0);
        CHECKS.same("from the issuer", bench.as(0).pay(2, 1, 10), 0);
        CHECKS.same("offer", bench.as(0).offer(0, 50, 1, 50, 0), 0);
        x.spend(0, 1000, false);
        CHECKS.same("by a book", bench.as(1).pay(2, 1, 10), 0);
        CHECKS.same("balance", x.balance(2, 0, 1), 130);
    }

    /** The lines of assets 1 (issued by 0) and 2 (issued by 1) between 0 and 1 are the same line. */
    private static void promise7OwedBefore() {
        Bench bench = new Bench(CHECKS).settlers(2, 5000).issue(0, 2, 50);
        TollLedger x = bench.ledger;
        CHECKS.same("owes", x.balance(1, 0, 1), -50);
        CHECKS.same("funds", x.funds(1, 1), 0);
        x.spend(1, 1000, false);
        CHECKS.same("51 of 50", bench.as(0).pay(1, 1, 51), 24);
        CHECKS.same("50 of 50", bench.as(0).pay(1, 1, 50), 0);
        CHECKS.same("even", x.balance(1, 0, 1), 0);
        CHECKS.same("1 of 0", bench.as(0).pay(1, 1, 1), 24);
    }

    private static void promise7ByBookWithTolls() {
        Bench bench = new Bench(CHECKS).settlers(3, 5000);
        bench.issue(1, 1, 400).issue(2, 7, 400).issue(2, 1, 0).issue(3, 7, 0);
        TollLedger x = bench.ledger;
        CHECKS.same("rate", bench.as(0).rate(100), 0);
        CHECKS.same("offer", bench.as(2).offer(1, 30, 7, 20, 0), 0);
        CHECKS.same("offer", bench.as(2).offer(1, 25, 7, 10, 0), 0);
        x.spend(1, 38, false);
        CHECKS.same("39 of 38", bench.as(1).pay(3, 7, 20), 24);
        CHECKS.same("as it was", x.offerOf(1, 1), 20);
        x.spend(1, 39, false);
        // 22 are taken: 20 for 30 (33 with toll), and 2 for 5 (6 with toll).
        CHECKS.same("39 of 39", bench.as(1).pay(3, 7, 20), 0);
        CHECKS.same("payer", x.balance(1, 0, 1), 361);
        CHECKS.same("payer has none of 7", x.balance(1, 0, 2), 0);
        CHECKS.same("owner gets", x.balance(2, 0, 1), 35);
        CHECKS.same("owner gives with tolls", x.balance(2, 0, 2), 375);
        CHECKS.same("payee", x.balance(3, 0, 2), 20);
        CHECKS.same("first is gone", x.offerOf(1, 0), -1);
        CHECKS.same("second wants", x.offerOf(2, 0), 20);
        CHECKS.same("second gives", x.offerOf(2, 1), 8);
    }

    private static void promise7ByBookOwnersFunds() {
        Bench bench = new Bench(CHECKS).settlers(3, 5000).issue(2, 7, 21).issue(3, 7, 0);
        TollLedger x = bench.ledger;
        CHECKS.same("rate", bench.as(0).rate(100), 0);
        CHECKS.same("offer", bench.as(2).offer(0, 100, 7, 100, 0), 0);
        x.spend(0, 1000, false);
        CHECKS.same("20 of 19", bench.as(1).pay(3, 7, 18), 24);
        x.spend(0, 1000, true);
        CHECKS.same("19 of 19", bench.as(1).pay(3, 7, 18), 0);
        CHECKS.same("payee", x.balance(3, 0, 2), 17);
        CHECKS.same("owner", x.balance(2, 0, 2), 0);
        CHECKS.same("owner's coins", x.account(2, 0), 5000 - 20 + 19);
        CHECKS.same("payer's coins", x.account(1, 0), 5000 - 20 - 19);
        CHECKS.same("rest wants", x.offerOf(1, 0), 81);
        CHECKS.same("rest gives", x.offerOf(1, 1), 81);
        CHECKS.same("no funds", bench.as(1).pay(3, 7, 1), 24);
        CHECKS.same("a claim removes no offer", x.offerOf(1, 1), 81);
    }

    private static void promise7ByBookSameOwner() {
        Bench bench = new Bench(CHECKS).settlers(4, 5000);
        bench.issue(2, 7, 30).issue(4, 7, 30).issue(3, 7, 0);
        TollLedger x = bench.ledger;
        CHECKS.same("offer", bench.as(2).offer(0, 20, 7, 20, 0), 0);
        CHECKS.same("offer", bench.as(2).offer(0, 40, 7, 20, 0), 0);
        CHECKS.same("offer", bench.as(2).offer(0, 60, 7, 20, 0), 0);
        CHECKS.same("offer", bench.as(4).offer(0, 80, 7, 20, 0), 0);
        x.spend(0, 1000, false);
        CHECKS.same("51 of 50", bench.as(1).pay(3, 7, 51), 24);
        CHECKS.same("35 of 50", bench.as(1).pay(3, 7, 35), 0);
        CHECKS.same("first is gone", x.offerOf(1, 1), -1);
        CHECKS.same("10 of the second", x.offerOf(2, 1), 10);
        CHECKS.same("none of the third, which stays", x.offerOf(3, 1), 20);
        CHECKS.same("5 of the fourth", x.offerOf(4, 1), 15);
        CHECKS.same("price of the fourth", x.offerOf(4, 0), 60);
        CHECKS.same("coins", x.account(1, 0), 5000 - 20 - 20 - 20 - 20);
    }

    private static void promise7ByBookUnfunded() {
        Bench bench = new Bench(CHECKS).settlers(4, 5000);
        bench.issue(2, 7, 30).issue(4, 7, 30).issue(3, 7, 0);
        TollLedger x = bench.ledger;
        CHECKS.same("best, unfunded", bench.as(2).offer(0, 20, 7, 20, 0), 0);
        CHECKS.same("funded", bench.as(4).offer(0, 40, 7, 20, 0), 0);
        CHECKS.same("worst, unfunded", bench.as(2).offer(0, 60, 7, 20, 0), 0);
        x.spend(7, 1000, false);
        CHECKS.same("now without funds", bench.as(2).pay(0, 7, 30), 0);
        x.spend(0, 1000, false);
        CHECKS.same("taken", bench.as(1).pay(3, 7, 20), 0);
        CHECKS.same("gone through and gone", x.offerOf(1, 1), -1);
        CHECKS.same("taken and gone", x.offerOf(2, 1), -1);
        CHECKS.same("not gone through", x.offerOf(3, 1), 20);
        CHECKS.same("pieces", x.account(2, 3), 2);
    }

    private static void promise7ByBookOwnOffer() {
        Bench bench = new Bench(CHECKS).settlers(3, 5000);
        bench.issue(1, 7, 30).issue(2, 7, 30).issue(3, 7, 0);
        TollLedger x = bench.ledger;
        CHECKS.same("offer", bench.as(1).offer(0, 20, 7, 20, 0), 0);
        x.spend(0, 1000, false);
        CHECKS.same("only its own", bench.as(1).pay(3, 7, 5), 24);
        CHECKS.same("offer", bench.as(2).offer(0, 60, 7, 20, 0), 0);
        CHECKS.same("the other's", bench.as(1).pay(3, 7, 5), 0);
        CHECKS.same("own stays", x.offerOf(1, 1), 20);
        CHECKS.same("15 left", x.offerOf(2, 1), 15);
        CHECKS.same("15 coins paid", x.account(1, 0), 5000 - 40 - 15);
    }

    private static void promise7ByBookCoins() {
        Bench bench = new Bench(CHECKS).settlers(3, 5000).issue(2, 7, 300).issue(3, 7, 0);
        TollLedger x = bench.ledger;
        CHECKS.same("offer", bench.as(2).offer(0, 300, 7, 300, 0), 0);
        CHECKS.same("send", bench.as(0).send(4, 210), 0);
        x.spend(0, 1000, false);
        CHECKS.same("101 of 100", bench.as(4).pay(3, 7, 101), 24);
        CHECKS.same("90 of 90", bench.as(4).pay(3, 7, 90), 0);
        CHECKS.same("the reserve", x.account(4, 0), 100);
        CHECKS.same("payee", x.balance(3, 0, 2), 90);
    }

    /** No toll where payer, payee or owner is the issuer of what moves, and no limit for issuers. */
    private static void promise7ByBookIssuers() {
        Bench bench = new Bench(CHECKS).settlers(3, 5000).issue(2, 7, 100);
        TollLedger x = bench.ledger;
        CHECKS.same("rate", bench.as(0).rate(200), 0);
        CHECKS.same("wants own paper", bench.as(2).offer(3, 40, 7, 20, 0), 0);
        CHECKS.same("trust", bench.as(1).trust(2, 1, 1000, false), 0);
        x.spend(3, 1000, false);
        CHECKS.same("pay", bench.as(2).pay(1, 3, 100), 0);
        CHECKS.same("rate", bench.as(2).rate(200), 0);
        // 10 of asset 7 to its issuer 0: 1 needs 10, owner 2 loses 10 and a toll of 2.
        CHECKS.same("pay", bench.as(1).pay(0, 7, 10), 0);
        CHECKS.same("owner", x.balance(2, 0, 2), 88);
        CHECKS.same("price without toll", x.balance(1, 2, 1), 80);
        // The issuer 0 pays its own paper by a book: no toll at the owner, none to the payee.
        CHECKS.same("trust", bench.as(0).trust(2, 1, 1000, false), 0);
        x.spend(3, 1000, false);
        CHECKS.same("pay", bench.as(2).pay(0, 3, 50), 0);
        CHECKS.same("trust", bench.as(3).trust(0, 2, 1000, false), 0);
        CHECKS.same("pay", bench.as(0).pay(3, 7, 10), 0);
        CHECKS.same("owner", x.balance(2, 0, 2), 78);
        CHECKS.same("payee", x.balance(3, 0, 2), 10);
        CHECKS.same("price", x.balance(0, 2, 1), 30);
        CHECKS.same("gone", x.offerOf(1, 0), -1);
    }

    private static void promise16() {
        Bench bench = new Bench(CHECKS).settlers(1, 130).issue(1, 1, 70);
        TollLedger x = bench.ledger;
        CHECKS.same("coins 120, reserve 120", x.funds(1, 0), 0);
        CHECKS.same("rate", bench.as(1).rate(5), 0);
        CHECKS.same("not less than 0", x.funds(1, 0), 0);
        CHECKS.same("send", bench.as(0).send(1, 50), 0);
        CHECKS.same("coins 160", x.funds(1, 0), 40);
        CHECKS.same("coins of 0", x.funds(0, 0), 1000000 - 30 - 180 - 100);
        CHECKS.same("balance", x.funds(1, 1), 70);
        CHECKS.same("what it owes", x.funds(0, 2), 0);
        CHECKS.same("other currency", x.funds(1, 7), 0);
        CHECKS.same("own", x.funds(1, 2), 1000000000);
        CHECKS.same("own", x.funds(1, 8), 1000000000);
        CHECKS.same("own", x.funds(0, 7), 1000000000);
        CHECKS.same("issued by nobody", x.funds(0, 12), 0);
        int[][] wrong = {{-1, 0}, {6, 0}, {2, 0}, {5, 6}, {0, -1}, {0, 13}, {1, Integer.MAX_VALUE},
            {Integer.MIN_VALUE, 1}};
        for (int[] w : wrong) {
            CHECKS.same("funds " + w[0] + " " + w[1], x.funds(w[0], w[1]), -1);
        }
    }
}
