/**
 * Terms, To TAKE: which offers are gone through, how much is taken of each, at what price, and what
 * is left. Asset 1 is currency 1, asset 7 currency 2, both issued by account 0, to whom a payment
 * of them needs no toll and no limit.
 */
public final class TakingTest {
    private static final Checks CHECKS = new Checks();

    public static void main(String[] args) {
        allOfAnOfferOrOneLess();
        fundsForAPartOnly();
        fundsThatPayNoTollLeaveTheOffer();
        fundsOfZeroEndTheOffer();
        fundsOfCoinsOfZeroEndTheOffer();
        anOwnerThatOwesHasNoFunds();
        tollsOfSeveralOffersAreRoundedEach();
        laterOffersOfASpentOwnerStay();
        fundsAreThoseBeforeThoughAPieceGoes();
        fundsAreThoseBeforeThoughAPieceComes();
        priceIsRoundedUp();
        goneWhenNothingIsWanted();
        ownOffersAreLeftOutFundedOrNot();
        ownersGetBeyondTheirLimits();
        issuersOfferWithoutEnd();
        costsOfPricesAreRoundedEach();
        untilAllIsTaken();
        untilAllIsTakenInACrossing();
        theLowerIdFirst();
        twelveAtOnce();
        CHECKS.end();
    }

    /** Accounts 1 .. 5 with 5000 coins; 2 has so much of asset 7. */
    private static Bench ownerWith(int funds) {
        Bench bench = new Bench(CHECKS).settlers(5, 5000).issue(2, 7, funds);
        bench.ledger.spend(0, 1000, false);
        return bench;
    }

    private static void rest(TollLedger x, int id, int w, int g) {
        CHECKS.same("offer " + id + " wants", x.offerOf(id, 0), w);
        CHECKS.same("offer " + id + " gives", x.offerOf(id, 1), g);
    }

    private static void allOfAnOfferOrOneLess() {
        for (int v = 19; v <= 21; v++) {
            Bench bench = ownerWith(30);
            CHECKS.same("offer", bench.as(2).offer(0, 40, 7, 20, 0), 0);
            CHECKS.same("pay " + v, bench.as(1).pay(0, 7, v), v <= 20 ? 0 : TollLedger.DRY);
            rest(bench.ledger, 1, v == 19 ? 2 : v == 20 ? -1 : 40, v == 19 ? 1 : v == 20 ? -1 : 20);
            CHECKS.same("owner", bench.ledger.balance(2, 0, 2), v <= 20 ? 30 - v : 30);
        }
    }

    /** Each row: the rate, the owner's funds, and the most whose cost they suffice for. */
    private static void fundsForAPartOnly() {
        int[][] rows = {{0, 1, 1}, {0, 21, 21}, {100, 20, 18}, {100, 21, 19}, {100, 22, 20},
            {100, 2, 1}, {1, 2, 1}, {1, 100, 99}, {200, 5, 4}, {200, 6, 5}, {200, 12, 10},
            {200, 13, 10}, {200, 14, 11}, {1, 1, 0}, {200, 1, 0}};
        for (int[] row : rows) {
            Bench bench = ownerWith(row[1]);
            TollLedger x = bench.ledger;
            int v = row[2];
            CHECKS.same("rate", bench.as(0).rate(row[0]), 0);
            CHECKS.same("offer", bench.as(2).offer(0, 100, 7, 100, 0), 0);
            String what = "rate " + row[0] + ", funds " + row[1];
            CHECKS.same(what, bench.as(1).pay(0, 7, v + 1), TollLedger.DRY);
            x.spend(0, 1000, true);
            CHECKS.same(what, bench.as(1).pay(0, 7, 100), v > 0 ? 0 : TollLedger.DRY);
            int toll = (v * row[0] + 999) / 1000;
            CHECKS.same("owner, " + what, x.balance(2, 0, 2), row[1] - v - toll);
            rest(x, 1, 100 - v, 100 - v);
        }
    }

    /** 1 is less than 1 and its toll, but it is not 0. */
    private static void fundsThatPayNoTollLeaveTheOffer() {
        Bench bench = ownerWith(1).issue(4, 7, 100);
        TollLedger x = bench.ledger;
        CHECKS.same("rate", bench.as(0).rate(1), 0);
        CHECKS.same("better", bench.as(2).offer(0, 10, 7, 10, 0), 0);
        CHECKS.same("worse", bench.as(4).offer(0, 20, 7, 10, 0), 0);
        x.spend(0, 1000, false);
        CHECKS.same("pay", bench.as(1).pay(0, 7, 5), 0);
        rest(x, 1, 10, 10);
        rest(x, 2, 10, 5);
        CHECKS.same("owner", x.balance(2, 0, 2), 1);
        CHECKS.same("crossed", bench.as(1).offer(7, 5, 0, 10, 2), 0);
        rest(x, 1, 10, 10);
        rest(x, 2, -1, -1);
    }

    private static void fundsOfZeroEndTheOffer() {
        Bench bench = ownerWith(1).issue(4, 7, 100);
        TollLedger x = bench.ledger;
        CHECKS.same("better", bench.as(2).offer(0, 10, 7, 10, 0), 0);
        CHECKS.same("as good", bench.as(2).offer(0, 10, 7, 10, 0), 0);
        CHECKS.same("worse", bench.as(4).offer(0, 20, 7, 10, 0), 0);
        x.spend(7, 1000, false);
        CHECKS.same("paid away", bench.as(2).pay(0, 7, 1), 0);
        x.spend(0, 1000, false);
        CHECKS.same("pay", bench.as(1).pay(0, 7, 5), 0);
        rest(x, 1, -1, -1);
        rest(x, 2, -1, -1);
        rest(x, 3, 10, 5);
        CHECKS.same("pieces", x.account(2, 3), 1);
    }

    /** An owner whose coins are as its reserve has no funds in the coin. */
    private static void fundsOfCoinsOfZeroEndTheOffer() {
        for (int left = 0; left <= 1; left++) {
            Bench bench = new Bench(CHECKS).settlers(1, 5000).issue(1, 1, 100);
            TollLedger x = bench.ledger;
            CHECKS.same("send", bench.as(0).send(2, 150 + left), 0);
            CHECKS.same("offer", bench.as(2).offer(1, 10, 0, 10, 0), 0);
            CHECKS.same("send", bench.as(2).send(0, 10), 0);
            CHECKS.same("funds", x.funds(2, 0), left);
            CHECKS.same("kept", bench.as(1).offer(0, 5, 1, 5, 0), 0);
            rest(x, 1, left == 0 ? -1 : 9, left == 0 ? -1 : 9);
            rest(x, 2, left == 0 ? 5 : 4, left == 0 ? 5 : 4);
        }
    }

    private static void anOwnerThatOwesHasNoFunds() {
        Bench bench = new Bench(CHECKS).settlers(2, 5000).issue(2, 1, 10).issue(0, 3, 0);
        TollLedger x = bench.ledger;
        CHECKS.same("offer", bench.as(2).offer(0, 10, 1, 10, 0), 0);
        x.spend(3, 1000, false);
        CHECKS.same("own paper the other way", bench.as(2).pay(0, 3, 30), 0);
        CHECKS.same("it owes", x.balance(2, 0, 1), -20);
        CHECKS.same("kept", bench.as(1).offer(1, 5, 0, 5, 0), 0);
        rest(x, 1, -1, -1);
        rest(x, 2, 5, 5);
        CHECKS.same("as it was", x.balance(2, 0, 1), -20);
    }

    /** Of 22, three times 5 cost 6 each, and 3 cost 4; 20 at once would have cost 22 as well. */
    private static void tollsOfSeveralOffersAreRoundedEach() {
        for (int d = 18; d <= 19; d++) {
            Bench bench = ownerWith(22);
            TollLedger x = bench.ledger;
            CHECKS.same("rate", bench.as(0).rate(100), 0);
            for (int w = 5; w <= 8; w++) {
                CHECKS.same("offer", bench.as(2).offer(0, w, 7, 5, 0), 0);
            }
            int coins = x.account(2, 0);
            CHECKS.same("pay " + d, bench.as(1).pay(0, 7, d), d == 18 ? 0 : TollLedger.DRY);
            if (d == 18) {
                CHECKS.same("owner", x.balance(2, 0, 2), 0);
                CHECKS.same("owner's coins", x.account(2, 0), coins + 5 + 6 + 7 + 5);
                CHECKS.same("book", x.book(0, 7, -1), 1);
                rest(x, 4, 3, 2);
            }
        }
    }

    private static void laterOffersOfASpentOwnerStay() {
        Bench bench = ownerWith(10).issue(4, 7, 100);
        TollLedger x = bench.ledger;
        CHECKS.same("first", bench.as(2).offer(0, 10, 7, 10, 0), 0);
        CHECKS.same("second", bench.as(2).offer(0, 11, 7, 10, 0), 0);
        CHECKS.same("other's", bench.as(4).offer(0, 12, 7, 10, 0), 0);
        CHECKS.same("third", bench.as(2).offer(0, 13, 7, 10, 0), 0);
        x.spend(0, 1000, false);
        CHECKS.same("pay", bench.as(1).pay(0, 7, 20), 0);
        rest(x, 1, -1, -1);
        rest(x, 2, 11, 10);
        rest(x, 3, -1, -1);
        rest(x, 4, 13, 10);
        // In the next taking the owner has no funds from the beginning.
        CHECKS.same("crossed", bench.as(1).offer(7, 10, 0, 13, 0), 0);
        rest(x, 2, -1, -1);
        rest(x, 4, -1, -1);
    }

    /** Two offers of 20 coins by 2, with funds of 30, for which 1 has asset 1 to give. */
    private static Bench coinOwner(boolean line) {
        Bench bench = new Bench(CHECKS).settlers(1, 5000).issue(1, 1, 100);
        CHECKS.same("send", bench.as(0).send(2, line ? 220 : 190), 0);
        if (line) {
            CHECKS.same("line", bench.as(2).trust(0, 1, 500, false), 0);
        }
        CHECKS.same("offer", bench.as(2).offer(1, 20, 0, 20, 0), 0);
        CHECKS.same("offer", bench.as(2).offer(1, 21, 0, 20, 0), 0);
        CHECKS.same("funds", bench.ledger.funds(2, 0), 30);
        return bench;
    }

    /** The first offer is a piece no longer when it is taken, but its owner's funds stay 30. */
    private static void fundsAreThoseBeforeThoughAPieceGoes() {
        Bench bench = coinOwner(true);
        TollLedger x = bench.ledger;
        CHECKS.same("40 coins", bench.as(1).offer(0, 40, 1, 80, 2), TollLedger.KILLED);
        CHECKS.same("30 coins", bench.as(1).offer(0, 40, 1, 80, 1), 0);
        rest(x, 1, -1, -1);
        rest(x, 2, 10, 10);
        CHECKS.same("price 20 and 11", x.balance(2, 0, 1), 31);
        CHECKS.same("coins", x.account(2, 0), 190 - 30);
        CHECKS.same("funds afterwards", x.funds(2, 0), 20);
    }

    /** The paper that comes for the first offer is a new piece, but its owner's funds stay 30. */
    private static void fundsAreThoseBeforeThoughAPieceComes() {
        Bench bench = coinOwner(false);
        TollLedger x = bench.ledger;
        CHECKS.same("30 coins", bench.as(1).offer(0, 40, 1, 80, 1), 0);
        rest(x, 2, 10, 10);
        CHECKS.same("balance", x.balance(2, 0, 1), 31);
        CHECKS.same("coins", x.account(2, 0), 170 - 30);
        CHECKS.same("funds afterwards", x.funds(2, 0), 0);
    }

    /** Each row: w, g, what is taken, its price. */
    private static void priceIsRoundedUp() {
        int[][] rows = {{10, 3, 1, 4}, {10, 3, 2, 7}, {10, 3, 3, 10}, {10, 5, 2, 4}, {5, 1, 1, 5},
            {100000, 99999, 1, 2}, {99999, 100000, 1, 1}, {99999, 100000, 99999, 99999},
            {100000, 7, 3, 42858}, {100000, 100000, 99999, 99999}, {1, 100000, 100000, 1},
            {100000, 1, 1, 100000}};
        for (int[] row : rows) {
            Bench bench = new Bench(CHECKS).settlers(1, 400000);
            TollLedger x = bench.ledger;
            CHECKS.same("offer", bench.as(0).offer(0, row[0], 7, row[1], 0), 0);
            String what = row[2] + " of " + row[1] + " for " + row[0];
            CHECKS.same(what, bench.as(1).offer(7, row[2], 0, 100000, 2), 0);
            CHECKS.same("coins, " + what, x.account(1, 0), 400000 - 10 - row[3]);
            CHECKS.same("got, " + what, x.balance(1, 0, 2), row[2]);
            boolean gone = row[2] == row[1] || row[3] == row[0];
            rest(x, 1, gone ? -1 : row[0] - row[3], gone ? -1 : row[1] - row[2]);
        }
    }

    /** 1 coin for 5: whoever takes the first of them has paid for all. */
    private static void goneWhenNothingIsWanted() {
        Bench bench = ownerWith(30);
        TollLedger x = bench.ledger;
        CHECKS.same("offer", bench.as(2).offer(0, 1, 7, 5, 0), 0);
        CHECKS.same("offer", bench.as(2).offer(0, 2, 7, 5, 0), 0);
        CHECKS.same("pay", bench.as(1).pay(0, 7, 1), 0);
        rest(x, 1, -1, -1);
        CHECKS.same("owner", x.balance(2, 0, 2), 29);
        CHECKS.same("pay", bench.as(1).pay(0, 7, 2), 0);
        rest(x, 2, 1, 3);
        CHECKS.same("pay", bench.as(1).pay(0, 7, 2), 0);
        rest(x, 2, -1, -1);
        CHECKS.same("owner", x.balance(2, 0, 2), 25);
        CHECKS.same("payer's coins", x.account(1, 0), 5000 - 30 - 3);
    }

    private static void ownOffersAreLeftOutFundedOrNot() {
        Bench bench = ownerWith(30).issue(1, 7, 10);
        TollLedger x = bench.ledger;
        CHECKS.same("own", bench.as(1).offer(0, 10, 7, 10, 0), 0);
        CHECKS.same("other's", bench.as(2).offer(0, 20, 7, 10, 0), 0);
        x.spend(0, 1000, false);
        CHECKS.same("pay", bench.as(1).pay(0, 7, 5), 0);
        rest(x, 1, 10, 10);
        rest(x, 2, 10, 5);
        x.spend(7, 1000, false);
        CHECKS.same("own without funds", bench.as(1).pay(0, 7, 10), 0);
        x.spend(0, 1000, false);
        CHECKS.same("pay", bench.as(1).pay(0, 7, 1), 0);
        rest(x, 1, 10, 10);
        rest(x, 2, 8, 4);
        CHECKS.same("crossed", bench.as(1).offer(7, 1, 0, 2, 2), 0);
        rest(x, 1, 10, 10);
        rest(x, 2, 6, 3);
    }

    private static void ownersGetBeyondTheirLimits() {
        Bench bench = ownerWith(30).issue(1, 1, 100);
        TollLedger x = bench.ledger;
        CHECKS.same("limit", bench.as(2).trust(0, 1, 5, false), 0);
        CHECKS.same("offer", bench.as(2).offer(1, 60, 7, 30, 0), 0);
        x.spend(1, 1000, false);
        CHECKS.same("pay", bench.as(1).pay(0, 7, 30), 0);
        CHECKS.same("price", x.balance(2, 0, 1), 60);
        CHECKS.same("limit", x.limit(2, 0, 1), 5);
    }

    /** 0 gives its own paper and gets its own paper back: nothing of its own falls or grows. */
    private static void issuersOfferWithoutEnd() {
        Bench bench = new Bench(CHECKS).settlers(1, 5000).issue(1, 1, 400);
        TollLedger x = bench.ledger;
        CHECKS.same("rate", bench.as(0).rate(200), 0);
        CHECKS.same("offer", bench.as(0).offer(1, 100000, 7, 100000, 0), 0);
        CHECKS.same("crossed", bench.as(1).offer(7, 400, 1, 400, 2), 0);
        CHECKS.same("given back", x.balance(1, 0, 1), 0);
        CHECKS.same("got", x.balance(1, 0, 2), 400);
        rest(x, 1, 99600, 99600);
        CHECKS.same("funds", x.funds(0, 7), 1000000000);
    }

    /** Two prices of 5 cost 6 each, though 10 at once would cost 11. */
    private static void costsOfPricesAreRoundedEach() {
        for (int max = 11; max <= 12; max++) {
            Bench bench = ownerWith(30).issue(4, 7, 30).issue(1, 1, 100);
            TollLedger x = bench.ledger;
            CHECKS.same("rate", bench.as(0).rate(100), 0);
            CHECKS.same("offer", bench.as(2).offer(1, 5, 7, 5, 0), 0);
            CHECKS.same("offer", bench.as(4).offer(1, 5, 7, 5, 0), 0);
            x.spend(1, max, false);
            CHECKS.same("max " + max, bench.as(1).pay(0, 7, 10), max == 12 ? 0 : TollLedger.DRY);
            CHECKS.same("payer", x.balance(1, 0, 1), max == 12 ? 88 : 100);
            CHECKS.same("owner", x.balance(2, 0, 1), max == 12 ? 5 : 0);
            CHECKS.same("owner", x.balance(4, 0, 1), max == 12 ? 5 : 0);
            CHECKS.same("owner gives", x.balance(2, 0, 2), max == 12 ? 24 : 30);
        }
    }

    /** 2 has no funds: its offers before that point are gone, those behind it stay. */
    private static Bench unfundedRoundFunded() {
        Bench bench = ownerWith(30).issue(4, 7, 100);
        CHECKS.same("before", bench.as(2).offer(0, 10, 7, 10, 0), 0);
        CHECKS.same("funded", bench.as(4).offer(0, 10, 7, 10, 0), 0);
        CHECKS.same("behind", bench.as(2).offer(0, 10, 7, 10, 0), 0);
        bench.ledger.spend(7, 1000, false);
        CHECKS.same("paid away", bench.as(2).pay(0, 7, 30), 0);
        bench.ledger.spend(0, 1000, false);
        return bench;
    }

    private static void untilAllIsTaken() {
        Bench bench = unfundedRoundFunded();
        TollLedger x = bench.ledger;
        CHECKS.same("10 of 10", bench.as(1).pay(0, 7, 10), 0);
        rest(x, 1, -1, -1);
        rest(x, 2, -1, -1);
        rest(x, 3, 10, 10);
        bench = unfundedRoundFunded();
        CHECKS.same("11 of 10", bench.as(1).pay(0, 7, 11), TollLedger.DRY);
        rest(bench.ledger, 1, 10, 10);
        bench.ledger.spend(0, 1000, true);
        CHECKS.same("as much as works", bench.as(1).pay(0, 7, 11), 0);
        rest(bench.ledger, 2, -1, -1);
        rest(bench.ledger, 3, 10, 10);
    }

    private static void untilAllIsTakenInACrossing() {
        for (int w = 10; w <= 11; w++) {
            Bench bench = unfundedRoundFunded();
            TollLedger x = bench.ledger;
            CHECKS.same(w + " of 10", bench.as(1).offer(7, w, 0, w, 1), 0);
            rest(x, 1, -1, -1);
            rest(x, 2, -1, -1);
            rest(x, 3, w == 10 ? 10 : -1, w == 10 ? 10 : -1);
        }
    }

    private static void theLowerIdFirst() {
        Bench bench = ownerWith(30).issue(4, 7, 100);
        TollLedger x = bench.ledger;
        CHECKS.same("first", bench.as(4).offer(0, 20, 7, 10, 0), 0);
        CHECKS.same("second", bench.as(2).offer(0, 10, 7, 5, 0), 0);
        CHECKS.same("third", bench.as(4).offer(0, 40, 7, 20, 0), 0);
        x.spend(0, 1000, false);
        CHECKS.same("pay", bench.as(1).pay(0, 7, 12), 0);
        rest(x, 1, -1, -1);
        rest(x, 2, 6, 3);
        rest(x, 3, 40, 20);
    }

    private static void twelveAtOnce() {
        Bench bench = new Bench(CHECKS).settlers(1, 5000);
        TollLedger x = bench.ledger;
        for (int i = 0; i < 12; i++) {
            CHECKS.same("offer", bench.as(0).offer(0, 20 + i, 7, 10, 0), 0);
        }
        CHECKS.same("trust", bench.as(1).trust(0, 2, 1000, false), 0);
        CHECKS.same("120 of 120", bench.as(1).offer(7, 120, 0, 1000, 2), 0);
        CHECKS.same("none is left", x.book(0, 7, -1), 0);
        CHECKS.same("paid", x.account(1, 0), 5000 - 20 - (20 + 31) * 6);
        CHECKS.same("got", x.balance(1, 0, 2), 120);
    }
}
