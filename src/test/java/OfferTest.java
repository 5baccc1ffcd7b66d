/** Promises 8, 9, 17 and 18. Asset 1 is currency 1, asset 7 currency 2, both issued by account 0. */
public final class OfferTest {
    private static final Checks CHECKS = new Checks();

    public static void main(String[] args) {
        promise8Placed();
        promise8CrossedOrNot();
        promise8PriceRoundedUp();
        promise8OwnOffersLeftOut();
        promise8LeftOfG();
        promise8UsedUpG();
        promise8CostsWithinFunds();
        promise8CoinsWithinFunds();
        promise8Kinds();
        promise8Twelve();
        promise8UnfundedWorseIsNotGoneThrough();
        promise8NobodysPaper();
        promise8GreatNumbers();
        promise9();
        promise17();
        promise18();
        CHECKS.end();
    }

    private static void promise8Placed() {
        Bench bench = new Bench(CHECKS).settlers(1, 5000).issue(1, 1, 10);
        CHECKS.same("more than its funds", bench.as(1).offer(0, 500, 1, 100, 0), 0);
        CHECKS.same("w", bench.ledger.offerOf(1, 0), 500);
        CHECKS.same("g", bench.ledger.offerOf(1, 1), 100);
        CHECKS.same("owner", bench.ledger.offerOf(1, 2), 1);
        CHECKS.same("pieces", bench.ledger.account(1, 3), 2);
        CHECKS.same("balance", bench.ledger.balance(1, 0, 1), 10);
        CHECKS.same("coins", bench.ledger.account(1, 0), 4980);
    }

    private static void promise8CrossedOrNot() {
        Bench bench = new Bench(CHECKS).settlers(2, 5000).issue(1, 1, 100);
        TollLedger x = bench.ledger;
        CHECKS.same("offer", bench.as(1).offer(0, 100, 1, 10, 0), 0);
        CHECKS.same("not crossed", bench.as(2).offer(1, 10, 0, 99, 0), 0);
        CHECKS.same("book", x.book(1, 0, 0), 2);
        CHECKS.same("cancel", bench.as(2).cancel(2), 0);
        CHECKS.same("just crossed", bench.as(2).offer(1, 10, 0, 100, 0), 0);
        CHECKS.same("gone", x.offerOf(1, 0), -1);
        CHECKS.same("nothing placed", x.book(1, 0, -1), 0);
        CHECKS.same("got without a limit", x.balance(2, 0, 1), 10);
        CHECKS.same("a piece by its balance", x.account(2, 3), 1);
        CHECKS.same("given", x.balance(1, 0, 1), 90);
        CHECKS.same("paid", x.account(2, 0), 5000 - 30 - 100);
        CHECKS.same("earned", x.account(1, 0), 5000 - 20 + 100);
        CHECKS.same("offer", bench.as(1).offer(0, 100, 1, 10, 0), 0);
        CHECKS.same("at the offer's own price", bench.as(2).offer(1, 15, 0, 900, 0), 0);
        CHECKS.same("paid", x.account(2, 0), 5000 - 40 - 200);
        CHECKS.same("rest wants", x.offerOf(4, 0), 5);
        CHECKS.same("rest gives", x.offerOf(4, 1), 800);
    }

    private static void promise8PriceRoundedUp() {
        Bench bench = new Bench(CHECKS).settlers(2, 5000).issue(1, 1, 100);
        TollLedger x = bench.ledger;
        CHECKS.same("offer", bench.as(1).offer(0, 10, 1, 3, 0), 0);
        CHECKS.same("2 for 7", bench.as(2).offer(1, 2, 0, 7, 2), 0);
        CHECKS.same("paid", x.account(2, 0), 5000 - 10 - 7);
        CHECKS.same("rest wants", x.offerOf(1, 0), 3);
        CHECKS.same("rest gives", x.offerOf(1, 1), 1);
        // 1 of 2 for a price of 1: the offer is gone though it could still give 1.
        CHECKS.same("offer", bench.as(1).offer(0, 1, 1, 2, 0), 0);
        CHECKS.same("1 for 1", bench.as(2).offer(1, 1, 0, 9, 2), 0);
        CHECKS.same("gone", x.offerOf(2, 1), -1);
        CHECKS.same("given", x.balance(1, 0, 1), 97);
    }

    private static void promise8OwnOffersLeftOut() {
        Bench bench = new Bench(CHECKS).settlers(2, 5000).issue(1, 1, 100).issue(2, 1, 100);
        TollLedger x = bench.ledger;
        CHECKS.same("own", bench.as(2).offer(0, 10, 1, 10, 0), 0);
        CHECKS.same("other's", bench.as(1).offer(0, 20, 1, 10, 0), 0);
        CHECKS.same("crossed", bench.as(2).offer(1, 5, 0, 20, 1), 0);
        CHECKS.same("own stays", x.offerOf(1, 1), 10);
        CHECKS.same("other's is less", x.offerOf(2, 1), 5);
        CHECKS.same("paid", x.account(1, 0), 5000 - 20 + 10);
    }

    /** Accounts 1, 2 and 3 can give 1 each, at a price of 2; then 1 is left of g. */
    private static Bench threeSmallOwners() {
        Bench bench = new Bench(CHECKS).settlers(5, 5000);
        bench.issue(1, 1, 1).issue(2, 1, 1).issue(3, 1, 1).issue(4, 1, 1);
        for (int owner = 1; owner <= 4; owner++) {
            CHECKS.same("offer", bench.as(owner).offer(0, 3, 1, 2, 0), 0);
        }
        return bench;
    }

    private static void promise8LeftOfG() {
        Bench bench = threeSmallOwners();
        TollLedger x = bench.ledger;
        CHECKS.same("3 for 5", bench.as(5).offer(1, 3, 0, 5, 0), 0);
        CHECKS.same("2 are taken", x.balance(5, 0, 1), 2);
        CHECKS.same("4 are paid", x.account(5, 0), 5000 - 10 - 4);
        CHECKS.same("first", x.offerOf(1, 1), 1);
        CHECKS.same("first", x.offerOf(1, 0), 1);
        CHECKS.same("third is left", x.offerOf(3, 1), 2);
        CHECKS.same("fourth is left", x.offerOf(4, 1), 2);
        CHECKS.same("rest wants", x.offerOf(5, 0), 1);
        CHECKS.same("rest gives", x.offerOf(5, 1), 1);
        CHECKS.same("rest's owner", x.offerOf(5, 2), 5);
    }

    private static void promise8UsedUpG() {
        Bench bench = threeSmallOwners();
        TollLedger x = bench.ledger;
        x.spend(1, 1000, false);
        CHECKS.same("4 has no funds", bench.as(4).pay(0, 1, 1), 0);
        CHECKS.same("4 for 6", bench.as(5).offer(1, 4, 0, 6, 0), 0);
        CHECKS.same("3 are taken", x.balance(5, 0, 1), 3);
        CHECKS.same("6 are paid", x.account(5, 0), 5000 - 10 - 6);
        CHECKS.same("nothing is placed", x.book(1, 0, -1), 0);
        CHECKS.same("the fourth was gone through", x.offerOf(4, 1), -1);
        CHECKS.same("the third stays", x.offerOf(3, 1), 1);
    }

    private static void promise8CostsWithinFunds() {
        for (int kind = 0; kind <= 1; kind++) {
            Bench bench = new Bench(CHECKS).settlers(3, 5000).issue(1, 1, 100).issue(3, 7, 22);
            TollLedger x = bench.ledger;
            CHECKS.same("rate", bench.as(0).rate(100), 0);
            CHECKS.same("offer", bench.as(1).offer(7, 40, 1, 40, 0), 0);
            CHECKS.same("crossed", bench.as(3).offer(1, 40, 7, 40, kind), 0);
            CHECKS.same("got", x.balance(3, 0, 1), 20);
            CHECKS.same("paid with toll", x.balance(3, 0, 2), 0);
            CHECKS.same("given with toll", x.balance(1, 0, 1), 78);
            CHECKS.same("earned", x.balance(1, 0, 2), 20);
            CHECKS.same("rest of the offer", x.offerOf(1, 1), 20);
            CHECKS.same("placed if kind 0", x.book(1, 7, -1), kind == 0 ? 1 : 0);
            CHECKS.same("rest", x.offerOf(2, 0), kind == 0 ? 20 : -1);
        }
    }

    private static void promise8CoinsWithinFunds() {
        Bench bench = new Bench(CHECKS).settlers(1, 5000).issue(1, 1, 300);
        TollLedger x = bench.ledger;
        CHECKS.same("offer", bench.as(1).offer(0, 100, 1, 100, 0), 0);
        CHECKS.same("offer", bench.as(1).offer(0, 200, 1, 100, 0), 0);
        CHECKS.same("send", bench.as(0).send(2, 231), 0);
        // 121 coins may go: 100 for 100 and 10 for 20; one coin more would be needed for 11.
        CHECKS.same("crossed", bench.as(2).offer(1, 200, 0, 400, 0), 0);
        CHECKS.same("got", x.balance(2, 0, 1), 110);
        CHECKS.same("coins", x.account(2, 0), 101);
        CHECKS.same("no reserve for the rest", x.book(1, 0, -1), 0);
    }

    private static void promise8Kinds() {
        Bench bench = new Bench(CHECKS).settlers(2, 5000).issue(1, 1, 100);
        TollLedger x = bench.ledger;
        CHECKS.same("kind 1, empty book", bench.as(2).offer(1, 5, 0, 5, 1), 25);
        CHECKS.same("kind 2, empty book", bench.as(2).offer(1, 5, 0, 5, 2), 25);
        CHECKS.same("offer", bench.as(1).offer(0, 10, 1, 10, 0), 0);
        CHECKS.same("kind 2, too much", bench.as(2).offer(1, 11, 0, 11, 2), 25);
        CHECKS.same("nothing has changed", x.offerOf(1, 1), 10);
        CHECKS.same("but fee and number", x.account(2, 0), 4970);
        CHECKS.same("number", x.account(2, 1), 4);
        CHECKS.same("kind 2, enough", bench.as(2).offer(1, 4, 0, 4, 2), 0);
        CHECKS.same("rest", x.offerOf(1, 1), 6);
        CHECKS.same("kind 1, too much", bench.as(2).offer(1, 50, 0, 50, 1), 0);
        CHECKS.same("taken", x.offerOf(1, 1), -1);
        CHECKS.same("not placed", x.book(1, 0, -1), 0);
        CHECKS.same("got", x.balance(2, 0, 1), 10);
        CHECKS.same("no id was used", bench.as(1).offer(0, 10, 1, 10, 0), 0);
        CHECKS.same("id 2", x.offerOf(2, 1), 10);
    }

    /** Twelve offers stand, each of which gives 10 of asset 1 for 10 coins or more. */
    private static Bench twelve() {
        Bench bench = new Bench(CHECKS).settlers(3, 5000).issue(1, 1, 10).issue(2, 1, 400);
        CHECKS.same("offer", bench.as(1).offer(0, 10, 1, 10, 0), 0);
        for (int i = 0; i < 11; i++) {
            CHECKS.same("offer", bench.as(2).offer(0, 20 + i, 1, 10, 0), 0);
        }
        return bench;
    }

    private static void promise8Twelve() {
        Bench bench = twelve();
        TollLedger x = bench.ledger;
        CHECKS.same("a thirteenth", bench.as(3).offer(1, 10, 0, 9, 0), 23);
        CHECKS.same("crossed, not placed", bench.as(3).offer(1, 4, 0, 4, 0), 0);
        CHECKS.same("less", x.offerOf(1, 1), 6);
        CHECKS.same("crossed, one gone, placed", bench.as(3).offer(1, 9, 0, 9, 0), 0);
        CHECKS.same("gone", x.offerOf(1, 1), -1);
        CHECKS.same("placed", x.offerOf(13, 1), 3);
        CHECKS.same("again twelve", bench.as(3).offer(1, 10, 0, 9, 0), 23);
        CHECKS.same("cancel", bench.as(3).cancel(13), 0);
        CHECKS.same("placed", bench.as(3).offer(1, 10, 0, 9, 0), 0);
        CHECKS.same("its id", x.offerOf(14, 1), 9);
    }

    private static void promise8UnfundedWorseIsNotGoneThrough() {
        Bench bench = new Bench(CHECKS).settlers(3, 5000).issue(1, 1, 10);
        TollLedger x = bench.ledger;
        CHECKS.same("offer", bench.as(1).offer(0, 20, 1, 10, 0), 0);
        x.spend(1, 1000, false);
        CHECKS.same("1 has no funds", bench.as(1).pay(0, 1, 10), 0);
        CHECKS.same("not crossed", bench.as(3).offer(1, 10, 0, 19, 0), 0);
        CHECKS.same("stays", x.offerOf(1, 1), 10);
        CHECKS.same("crossed", bench.as(3).offer(1, 10, 0, 20, 0), 0);
        CHECKS.same("gone", x.offerOf(1, 1), -1);
        CHECKS.same("both placed", x.book(1, 0, -1), 2);
    }

    private static void promise8NobodysPaper() {
        Bench bench = new Bench(CHECKS).settlers(1, 5000);
        CHECKS.same("wants it", bench.as(1).offer(6, 5, 0, 5, 0), 0);
        CHECKS.same("gives it", bench.as(1).offer(0, 5, 6, 5, 0), 22);
        CHECKS.same("send", bench.as(0).send(5, 500), 0);
        CHECKS.same("its issuer comes", bench.as(5).offer(0, 5, 6, 5, 2), 0);
        CHECKS.same("balance", bench.ledger.balance(1, 5, 1), 5);
        CHECKS.same("coins", bench.ledger.account(5, 0), 495);
    }

    private static void promise8GreatNumbers() {
        Bench bench = new Bench(CHECKS).settlers(2, 5000);
        TollLedger x = bench.ledger;
        CHECKS.same("offer", bench.as(1).offer(3, 99999, 2, 100000, 0), 0);
        CHECKS.same("offer", bench.as(1).offer(3, 99998, 2, 99999, 0), 0);
        CHECKS.same("the second is better", x.book(3, 2, 0), 2);
        CHECKS.same("not crossed", bench.as(2).offer(2, 100000, 3, 99998, 1), 25);
        CHECKS.same("crossed", bench.as(2).offer(2, 100000, 3, 99999, 2), 0);
        CHECKS.same("the second is gone", x.offerOf(2, 0), -1);
        CHECKS.same("one of the first", x.offerOf(1, 1), 99999);
        CHECKS.same("for one", x.offerOf(1, 0), 99998);
        CHECKS.same("both are issuers", x.balance(2, 1, 1), 100000 - 99999);
    }

    private static void promise9() {
        Bench bench = new Bench(CHECKS).settlers(2, 5000);
        TollLedger x = bench.ledger;
        int root = x.root();
        CHECKS.same("cancel(0)", bench.as(1).cancel(0), -1);
        CHECKS.same("cancel(-1)", bench.as(1).cancel(-1), -1);
        bench.unchanged("wrong cancel", root);
        CHECKS.same("none", bench.as(1).cancel(1), 26);
        CHECKS.same("offer", bench.as(1).offer(1, 5, 0, 5, 0), 0);
        CHECKS.same("offer", bench.as(1).offer(1, 6, 0, 5, 0), 0);
        CHECKS.same("not its own", bench.as(2).cancel(1), 26);
        CHECKS.same("stays", x.offerOf(1, 0), 5);
        CHECKS.same("pieces", x.account(1, 3), 2);
        CHECKS.same("cancel", bench.as(1).cancel(2), 0);
        CHECKS.same("gone", x.offerOf(2, 0), -1);
        CHECKS.same("the first stays", x.offerOf(1, 0), 5);
        CHECKS.same("pieces", x.account(1, 3), 1);
        CHECKS.same("again", bench.as(1).cancel(2), 26);
        CHECKS.same("offer", bench.as(1).offer(1, 7, 0, 5, 0), 0);
        CHECKS.same("a new id", x.offerOf(3, 0), 7);
        CHECKS.same("none", bench.as(1).cancel(Integer.MAX_VALUE), 26);
        CHECKS.same("coins", x.account(1, 0), 5000 - 70);
    }

    private static void promise17() {
        Bench bench = new Bench(CHECKS).settlers(2, 5000);
        TollLedger x = bench.ledger;
        int[][] pairs = {{30, 10}, {3, 2}, {20, 10}, {6, 4}, {1, 1}, {4, 2}};
        for (int i = 0; i < pairs.length; i++) {
            CHECKS.same("offer", bench.as(1 + i % 2).offer(1, pairs[i][0], 0, pairs[i][1], 0), 0);
        }
        CHECKS.same("other book", bench.as(1).offer(0, 500, 2, 5, 0), 0);
        int[] order = {5, 2, 4, 3, 6, 1};
        for (int n = 0; n < order.length; n++) {
            CHECKS.same("place " + n, x.book(1, 0, n), order[n]);
        }
        CHECKS.same("size", x.book(1, 0, -1), 6);
        CHECKS.same("behind the last", x.book(1, 0, 6), -1);
        CHECKS.same("n = -2", x.book(1, 0, -2), -1);
        CHECKS.same("n = 12", x.book(1, 0, 12), -1);
        CHECKS.same("n = most", x.book(1, 0, Integer.MAX_VALUE), -1);
        CHECKS.same("the other way", x.book(0, 1, -1), 0);
        CHECKS.same("the other way", x.book(0, 1, 0), -1);
        CHECKS.same("other book", x.book(0, 2, 0), 7);
        CHECKS.same("one asset", x.book(3, 3, -1), 0);
        CHECKS.same("one asset", x.book(3, 3, 0), -1);
        for (int wrong : new int[] {-1, 13, Integer.MAX_VALUE, Integer.MIN_VALUE}) {
            CHECKS.same("x " + wrong, x.book(wrong, 0, -1), -1);
            CHECKS.same("k " + wrong, x.book(0, wrong, -1), -1);
            CHECKS.same("both " + wrong, x.book(wrong, wrong, -1), -1);
            CHECKS.same("k " + wrong, x.book(0, wrong, 0), -1);
        }
    }

    private static void promise18() {
        Bench bench = new Bench(CHECKS).settlers(2, 5000);
        TollLedger x = bench.ledger;
        CHECKS.same("offer", bench.as(2).offer(1, 30, 0, 10, 0), 0);
        CHECKS.same("offer", bench.as(1).offer(1, 31, 0, 11, 0), 0);
        CHECKS.same("w", x.offerOf(1, 0), 30);
        CHECKS.same("g", x.offerOf(1, 1), 10);
        CHECKS.same("owner", x.offerOf(1, 2), 2);
        CHECKS.same("w", x.offerOf(2, 0), 31);
        CHECKS.same("g", x.offerOf(2, 1), 11);
        CHECKS.same("owner", x.offerOf(2, 2), 1);
        CHECKS.same("what 3", x.offerOf(1, 3), -1);
        CHECKS.same("what -1", x.offerOf(1, -1), -1);
        for (int id : new int[] {0, 3, -1, Integer.MAX_VALUE, Integer.MIN_VALUE}) {
            CHECKS.same("id " + id, x.offerOf(id, 0), -1);
        }
    }
}
