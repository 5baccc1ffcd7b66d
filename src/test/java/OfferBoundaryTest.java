/**
 * Promise 8 at its edges: what is crossed, how far, and when the rest is placed. Asset 1 is
 * currency 1, asset 7 currency 2, both issued by account 0.
 */
public final class OfferBoundaryTest {
    private static final Checks CHECKS = new Checks();

    public static void main(String[] args) {
        fundsOfZeroAndOne();
        crossedAtItsVeryPrice();
        crossedByTheNumbersOfTheCall();
        productsBeyondInts();
        priceWithinWhatIsLeftOfG();
        costWithinFunds();
        costWithinFundsAfterCostsBefore();
        noMoreThanIsStillWanted();
        allTakenWithCoinsLeft();
        allGivenWithSomethingStillWanted();
        kindTwoTakesAllOrNothing();
        kindOneTakesAtLeastOne();
        kindsThatPlaceNothingNeedNoPlace();
        restIsPlacedWithTheReserveJustReached();
        restWithNewPieceNeedsMore();
        ownPaperNeitherFallsNorGrows();
        coinsFallAndGrow();
        twelveBeforeElevenThen();
        unfundedOffersMakePlace();
        fundedOffersThatGiveNothingMakeNone();
        reserveOnlyWhenNothingWasTaken();
        CHECKS.end();
    }

    /** Accounts 1 and 2 with 5000 coins; 1 has 100 of asset 1 and offers it so. */
    private static Bench offered(int w, int g) {
        Bench bench = new Bench(CHECKS).settlers(2, 5000).issue(1, 1, 100);
        CHECKS.same("offer", bench.as(1).offer(0, w, 1, g, 0), 0);
        return bench;
    }

    private static void rest(TollLedger x, int id, int w, int g) {
        CHECKS.same("offer " + id + " wants", x.offerOf(id, 0), w);
        CHECKS.same("offer " + id + " gives", x.offerOf(id, 1), g);
    }

    private static void fundsOfZeroAndOne() {
        Bench bench = new Bench(CHECKS).settlers(1, 5000).issue(1, 1, 1).issue(1, 7, 0);
        CHECKS.same("0", bench.as(1).offer(0, 5, 7, 5, 0), TollLedger.SHORT);
        CHECKS.same("1", bench.as(1).offer(0, 5, 1, 5, 0), 0);
        CHECKS.same("send", bench.as(0).send(2, 110), 0);
        CHECKS.same("0 coins above", bench.as(2).offer(7, 5, 0, 5, 1), TollLedger.SHORT);
        CHECKS.same("send", bench.as(0).send(2, 11), 0);
        CHECKS.same("1 coin above", bench.as(2).offer(7, 5, 0, 5, 1), TollLedger.KILLED);
        CHECKS.same("coins", bench.ledger.account(2, 0), 101);
    }

    /** 30 for 20: the other side must give 3 for 2 at least. */
    private static void crossedAtItsVeryPrice() {
        int[][] rows = {{20, 30, 20}, {20, 29, 0}, {20, 31, 20}, {2, 3, 2}, {2, 2, 0}, {3, 4, 0},
            {3, 5, 3}, {1, 1, 0}, {1, 2, 1}, {21, 31, 0}, {21, 32, 20}};
        for (int[] row : rows) {
            Bench bench = offered(30, 20);
            String what = row[0] + " for " + row[1];
            int due = row[2] > 0 ? 0 : TollLedger.KILLED;
            CHECKS.same(what, bench.as(2).offer(1, row[0], 0, row[1], 1), due);
            CHECKS.same("got, " + what, bench.ledger.balance(2, 0, 1), row[2]);
        }
    }

    /** After 5 for 5 the rest would be 5 for 15, but 10 for 20 is what counts. */
    private static void crossedByTheNumbersOfTheCall() {
        Bench bench = offered(5, 5);
        TollLedger x = bench.ledger;
        CHECKS.same("dearer than 2", bench.as(1).offer(0, 21, 1, 10, 0), 0);
        CHECKS.same("crossed", bench.as(2).offer(1, 10, 0, 20, 0), 0);
        CHECKS.same("got", x.balance(2, 0, 1), 5);
        rest(x, 2, 21, 10);
        rest(x, 3, 5, 15);
        CHECKS.same("cancel", bench.as(2).cancel(3), 0);
        CHECKS.same("just dear enough", bench.as(2).offer(1, 10, 0, 21, 0), 0);
        CHECKS.same("got", x.balance(2, 0, 1), 15);
        rest(x, 2, -1, -1);
    }

    /** 30000 * 100000 is beyond the ints: wrapped, it would be less than anything. */
    private static void productsBeyondInts() {
        Bench bench = new Bench(CHECKS).settlers(2, 5000);
        TollLedger x = bench.ledger;
        CHECKS.same("dear", bench.as(1).offer(3, 30000, 2, 1, 0), 0);
        CHECKS.same("not crossed", bench.as(2).offer(2, 100000, 3, 1, 1), TollLedger.KILLED);
        CHECKS.same("just not", bench.as(2).offer(2, 3, 3, 89999, 1), TollLedger.KILLED);
        CHECKS.same("just", bench.as(2).offer(2, 3, 3, 90000, 1), 0);
        CHECKS.same("cheap", bench.as(1).offer(3, 1, 2, 100000, 0), 0);
        CHECKS.same("crossed", bench.as(2).offer(2, 1, 3, 100000, 1), 0);
        CHECKS.same("gone for 1", x.offerOf(2, 0), -1);
        CHECKS.same("papers of both, on one line", x.balance(2, 1, 1), 2 - 30000 - 1);
    }

    /** At 3 for 2, 1 costs 2: what is left of g after that buys no second. */
    private static void priceWithinWhatIsLeftOfG() {
        for (int g = 3; g <= 4; g++) {
            Bench bench = new Bench(CHECKS).settlers(3, 5000).issue(1, 1, 1).issue(3, 1, 1);
            TollLedger x = bench.ledger;
            CHECKS.same("offer", bench.as(1).offer(0, 3, 1, 2, 0), 0);
            CHECKS.same("offer", bench.as(3).offer(0, 3, 1, 2, 0), 0);
            CHECKS.same("2 for " + g, bench.as(2).offer(1, 2, 0, g, 1), 0);
            CHECKS.same("got", x.balance(2, 0, 1), g == 3 ? 1 : 2);
            CHECKS.same("paid", x.account(2, 0), 5000 - 10 - (g == 3 ? 2 : 4));
            rest(x, 2, g == 3 ? 3 : 1, g == 3 ? 2 : 1);
        }
    }

    /** At a rate of 100, 10 cost 11, 11 cost 13. */
    private static void costWithinFunds() {
        for (int funds = 11; funds <= 13; funds++) {
            Bench bench = new Bench(CHECKS).settlers(2, 5000).issue(1, 7, 100);
            TollLedger x = bench.issue(2, 1, funds).ledger;
            CHECKS.same("rate", bench.as(0).rate(100), 0);
            CHECKS.same("offer", bench.as(1).offer(1, 50, 7, 50, 0), 0);
            CHECKS.same("crossed", bench.as(2).offer(7, 50, 1, 50, 1), 0);
            CHECKS.same("got", x.balance(2, 0, 2), funds < 13 ? 10 : 11);
            CHECKS.same("left", x.balance(2, 0, 1), funds == 12 ? 1 : 0);
        }
        Bench bench = new Bench(CHECKS).settlers(2, 5000).issue(1, 7, 100).issue(2, 1, 1);
        CHECKS.same("rate", bench.as(0).rate(1), 0);
        CHECKS.same("offer", bench.as(1).offer(1, 50, 7, 50, 0), 0);
        CHECKS.same("1 costs 2", bench.as(2).offer(7, 5, 1, 5, 1), TollLedger.KILLED);
        CHECKS.same("placed", bench.as(2).offer(7, 5, 1, 5, 0), 0);
        rest(bench.ledger, 1, 50, 50);
        rest(bench.ledger, 2, 5, 5);
    }

    /** Two prices of 5 cost 6 each; of 11, 5 are left for the second, which buy 4. */
    private static void costWithinFundsAfterCostsBefore() {
        Bench bench = new Bench(CHECKS).settlers(2, 5000).issue(1, 7, 100).issue(2, 1, 11);
        TollLedger x = bench.ledger;
        CHECKS.same("rate", bench.as(0).rate(100), 0);
        CHECKS.same("offer", bench.as(1).offer(1, 5, 7, 5, 0), 0);
        CHECKS.same("offer", bench.as(1).offer(1, 5, 7, 5, 0), 0);
        CHECKS.same("crossed", bench.as(2).offer(7, 10, 1, 10, 1), 0);
        CHECKS.same("got", x.balance(2, 0, 2), 9);
        CHECKS.same("left", x.balance(2, 0, 1), 0);
        rest(x, 2, 1, 1);
    }

    /** Of the second and third offer only what the first has left to be taken. */
    private static void noMoreThanIsStillWanted() {
        Bench bench = offered(10, 10);
        TollLedger x = bench.ledger;
        CHECKS.same("offer", bench.as(1).offer(0, 20, 1, 10, 0), 0);
        CHECKS.same("offer", bench.as(1).offer(0, 30, 1, 10, 0), 0);
        CHECKS.same("15 of 30", bench.as(2).offer(1, 15, 0, 900, 0), 0);
        CHECKS.same("got", x.balance(2, 0, 1), 15);
        CHECKS.same("paid", x.account(2, 0), 5000 - 10 - 20);
        rest(x, 1, -1, -1);
        rest(x, 2, 10, 5);
        rest(x, 3, 30, 10);
    }

    private static void allTakenWithCoinsLeft() {
        Bench bench = offered(10, 10);
        CHECKS.same("10 for 900", bench.as(2).offer(1, 10, 0, 900, 0), 0);
        CHECKS.same("no rest", bench.ledger.book(1, 0, -1), 0);
        CHECKS.same("paid", bench.ledger.account(2, 0), 5000 - 10 - 10);
        bench = offered(10, 10);
        CHECKS.same("11 for 900", bench.as(2).offer(1, 11, 0, 900, 0), 0);
        rest(bench.ledger, 2, 1, 890);
    }

    /** Two owners with 1 each, at 2 for 1 when rounded: 3 for 4 ends with 1 wanted and 0 left. */
    private static void allGivenWithSomethingStillWanted() {
        for (int g = 4; g <= 5; g++) {
            Bench bench = new Bench(CHECKS).settlers(3, 5000).issue(1, 1, 1).issue(3, 1, 1);
            CHECKS.same("offer", bench.as(1).offer(0, 4, 1, 3, 0), 0);
            CHECKS.same("offer", bench.as(3).offer(0, 4, 1, 3, 0), 0);
            CHECKS.same("3 for " + g, bench.as(2).offer(1, 3, 0, g, 0), 0);
            CHECKS.same("got", bench.ledger.balance(2, 0, 1), 2);
            rest(bench.ledger, 3, g == 4 ? -1 : 1, g == 4 ? -1 : 1);
        }
    }

    private static void kindTwoTakesAllOrNothing() {
        for (int w = 9; w <= 11; w++) {
            Bench bench = offered(10, 10);
            int due = w <= 10 ? 0 : TollLedger.KILLED;
            CHECKS.same("wants " + w, bench.as(2).offer(1, w, 0, 20, 2), due);
            CHECKS.same("got", bench.ledger.balance(2, 0, 1), w <= 10 ? w : 0);
            CHECKS.same("no rest", bench.ledger.book(1, 0, -1), 0);
        }
        Bench bench = offered(10, 10);
        CHECKS.same("w is 1", bench.as(2).offer(1, 1, 0, 1, 2), 0);
        CHECKS.same("got", bench.ledger.balance(2, 0, 1), 1);
    }

    private static void kindOneTakesAtLeastOne() {
        Bench bench = new Bench(CHECKS).settlers(2, 5000).issue(1, 1, 1);
        CHECKS.same("offer", bench.as(1).offer(0, 10, 1, 10, 0), 0);
        CHECKS.same("1 of 100000", bench.as(2).offer(1, 100000, 0, 100000, 1), 0);
        CHECKS.same("got", bench.ledger.balance(2, 0, 1), 1);
        CHECKS.same("no rest", bench.ledger.book(1, 0, -1), 0);
        CHECKS.same("0 of 100000", bench.as(2).offer(1, 100000, 0, 100000, 1), TollLedger.KILLED);
        rest(bench.ledger, 1, 9, 9);
    }

    private static void kindsThatPlaceNothingNeedNoPlace() {
        for (int kind = 1; kind <= 2; kind++) {
            Bench bench = twelve();
            CHECKS.same("kind " + kind, bench.as(3).offer(1, 4, 0, 4, kind), 0);
            CHECKS.same("got", bench.ledger.balance(3, 0, 1), 4);
            // 10 coins above the reserve when the fee is burnt, and none for one more piece.
            CHECKS.same("send", bench.as(0).send(4, 120), 0);
            CHECKS.same("kind " + kind, bench.as(4).offer(1, 1, 0, 1, kind), 0);
            CHECKS.same("got", bench.ledger.balance(4, 0, 1), 1);
        }
    }

    /** 2 sells its own paper for coins: what comes counts for the reserve of the rest. */
    private static void restIsPlacedWithTheReserveJustReached() {
        for (int coins = 19; coins <= 20; coins++) {
            Bench bench = new Bench(CHECKS).settlers(1, 5000);
            CHECKS.same("offer", bench.as(1).offer(3, coins, 0, coins, 0), 0);
            CHECKS.same("send", bench.as(0).send(2, 110), 0);
            CHECKS.same("crossed", bench.as(2).offer(0, 30, 3, 30, 0), 0);
            CHECKS.same("coins", bench.ledger.account(2, 0), 100 + coins);
            CHECKS.same("placed or not", bench.ledger.book(0, 3, -1), coins - 19);
            CHECKS.same("pieces", bench.ledger.account(2, 3), coins - 19);
        }
    }

    /** The paper that was got is a piece too, so the rest asks for a reserve of 140. */
    private static void restWithNewPieceNeedsMore() {
        for (int coins = 139; coins <= 140; coins++) {
            Bench bench = offered(10, 10);
            CHECKS.same("send", bench.as(0).send(3, coins + 20), 0);
            CHECKS.same("crossed", bench.as(3).offer(1, 11, 0, 11, 0), 0);
            CHECKS.same("coins", bench.ledger.account(3, 0), coins);
            CHECKS.same("placed or not", bench.ledger.book(1, 0, -1), coins - 139);
            CHECKS.same("pieces", bench.ledger.account(3, 3), coins - 138);
        }
    }

    /** 0 gives its own paper and gets its own paper: no balance but the other's changes. */
    private static void ownPaperNeitherFallsNorGrows() {
        Bench bench = new Bench(CHECKS).settlers(1, 5000).issue(1, 1, 100);
        TollLedger x = bench.ledger;
        CHECKS.same("offer", bench.as(1).offer(7, 50, 1, 100, 0), 0);
        int coins = x.account(0, 0);
        CHECKS.same("crossed", bench.as(0).offer(1, 100, 7, 50, 2), 0);
        CHECKS.same("1 has given", x.balance(1, 0, 1), 0);
        CHECKS.same("1 has got", x.balance(1, 0, 2), 50);
        CHECKS.same("only the fee", x.account(0, 0), coins - 10);
    }

    private static void coinsFallAndGrow() {
        Bench bench = offered(20, 10);
        TollLedger x = bench.ledger;
        CHECKS.same("bought", bench.as(2).offer(1, 10, 0, 20, 2), 0);
        CHECKS.same("2 has paid", x.account(2, 0), 5000 - 10 - 20);
        CHECKS.same("1 has got", x.account(1, 0), 5000 - 20 + 20);
        CHECKS.same("offer of coins", bench.as(1).offer(1, 10, 0, 20, 0), 0);
        CHECKS.same("sold", bench.as(2).offer(0, 20, 1, 10, 2), 0);
        CHECKS.same("2 has got", x.account(2, 0), 5000 - 20);
        CHECKS.same("1 has paid", x.account(1, 0), 5000 - 30);
        CHECKS.same("2 has none", x.balance(2, 0, 1), 0);
    }

    /** Twelve stand: 1 gives 10 of asset 1 for 10 coins, 2 the others for more. */
    private static Bench twelve() {
        Bench bench = new Bench(CHECKS).settlers(3, 5000).issue(1, 1, 10).issue(2, 1, 400);
        CHECKS.same("offer", bench.as(1).offer(0, 10, 1, 10, 0), 0);
        for (int i = 0; i < 11; i++) {
            CHECKS.same("offer", bench.as(2).offer(0, 50, 1, 10, 0), 0);
        }
        return bench;
    }

    /** "If there are 12 offers then": one that is taken whole makes place for the rest. */
    private static void twelveBeforeElevenThen() {
        Bench bench = twelve();
        CHECKS.same("9 of 10", bench.as(3).offer(1, 9, 0, 9, 0), 0);
        CHECKS.same("nothing to place", bench.ledger.book(1, 0, -1), 0);
        CHECKS.same("1 of 1 and a rest", bench.as(3).offer(1, 2, 0, 2, 0), 0);
        rest(bench.ledger, 1, -1, -1);
        rest(bench.ledger, 13, 1, 1);
        CHECKS.same("twelve again", bench.as(3).offer(1, 2, 0, 2, 0), TollLedger.RESERVE);
    }

    private static void unfundedOffersMakePlace() {
        Bench bench = twelve();
        TollLedger x = bench.ledger;
        x.spend(1, 1000, false);
        CHECKS.same("1 has none", bench.as(1).pay(0, 1, 10), 0);
        CHECKS.same("too cheap to reach it", bench.as(3).offer(1, 10, 0, 9, 0), TollLedger.RESERVE);
        rest(x, 1, 10, 10);
        CHECKS.same("reached, gone, placed", bench.as(3).offer(1, 10, 0, 10, 0), 0);
        rest(x, 1, -1, -1);
        rest(x, 13, 10, 10);
    }

    /** 1 of funds pays no toll: the first offer is left as it is, so there are still twelve. */
    private static void fundedOffersThatGiveNothingMakeNone() {
        Bench bench = twelve();
        TollLedger x = bench.ledger;
        x.spend(1, 1000, false);
        CHECKS.same("all but 1 away", bench.as(1).pay(0, 1, 9), 0);
        CHECKS.same("rate", bench.as(0).rate(1), 0);
        CHECKS.same("no place", bench.as(3).offer(1, 10, 0, 10, 0), TollLedger.RESERVE);
        rest(x, 1, 10, 10);
        CHECKS.same("cancel", bench.as(2).cancel(12), 0);
        CHECKS.same("place", bench.as(3).offer(1, 10, 0, 10, 0), 0);
        rest(x, 1, 10, 10);
        rest(x, 13, 10, 10);
    }

    private static void reserveOnlyWhenNothingWasTaken() {
        Bench bench = twelve();
        TollLedger x = bench.ledger;
        CHECKS.same("nothing", bench.as(3).offer(1, 10, 0, 9, 0), TollLedger.RESERVE);
        // 1's owner pays away all but 1: a part is taken, and eleven more stay with its rest.
        x.spend(1, 1000, false);
        CHECKS.same("away", bench.as(1).pay(0, 1, 9), 0);
        CHECKS.same("a part", bench.as(3).offer(1, 10, 0, 10, 0), 0);
        CHECKS.same("got", x.balance(3, 0, 1), 1);
        rest(x, 1, 9, 9);
        CHECKS.same("not placed", x.book(1, 0, -1), 0);
        CHECKS.same("paid", x.account(3, 0), 5000 - 20 - 1);
    }
}
