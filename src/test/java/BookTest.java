/** Terms, OFFERS and the BOOK: its order, ids, and that there are at most 12 at a time. */
public final class BookTest {
    private static final Checks CHECKS = new Checks();

    public static void main(String[] args) {
        anEmptyBook();
        equalPricesByIds();
        justBetterComesFirst();
        productsBeyondInts();
        aRestComesBehindItsEquals();
        roundingMovesAnOfferUp();
        whatIsGoneLeavesNoGap();
        twelveInOneBook();
        twelveOverAllBooks();
        idsAreNeverGivenAgain();
        CHECKS.end();
    }

    /** Offers of coins for asset 4 (issued by 3), as pairs of w and g, by the accounts 1 and 2 in turn. */
    private static Bench offers(int[]... pairs) {
        Bench bench = new Bench(CHECKS).settlers(3, 150000);
        for (int i = 0; i < pairs.length; i++) {
            CHECKS.same("offer", bench.as(1 + i % 2).offer(4, pairs[i][0], 0, pairs[i][1], 0), 0);
        }
        return bench;
    }

    private static void order(String what, TollLedger x, int... ids) {
        CHECKS.same("size, " + what, x.book(4, 0, -1), ids.length);
        for (int n = 0; n < ids.length; n++) {
            CHECKS.same("place " + n + ", " + what, x.book(4, 0, n), ids[n]);
        }
        CHECKS.same("behind the last, " + what, x.book(4, 0, ids.length), -1);
    }

    private static void anEmptyBook() {
        order("empty", offers().ledger);
        TollLedger x = offers(new int[] {5, 5}).ledger;
        CHECKS.same("turned round", x.book(0, 4, -1), 0);
        CHECKS.same("turned round", x.book(0, 4, 0), -1);
        CHECKS.same("another asset", x.book(10, 0, -1), 0);
    }

    private static void equalPricesByIds() {
        order("the same", offers(new int[] {5, 5}, new int[] {5, 5}, new int[] {5, 5}).ledger,
                1, 2, 3);
        order("larger and smaller", offers(new int[] {6, 4}, new int[] {3, 2}, new int[] {9, 6},
                new int[] {99999, 66666}).ledger, 1, 2, 3, 4);
        order("smaller and larger", offers(new int[] {99999, 66666}, new int[] {9, 6},
                new int[] {3, 2}).ledger, 1, 2, 3);
    }

    private static void justBetterComesFirst() {
        order("wants 1 less", offers(new int[] {6, 4}, new int[] {5, 4}).ledger, 2, 1);
        order("wants 1 more", offers(new int[] {6, 4}, new int[] {7, 4}).ledger, 1, 2);
        order("gives 1 more", offers(new int[] {6, 4}, new int[] {6, 5}).ledger, 2, 1);
        order("gives 1 less", offers(new int[] {6, 4}, new int[] {6, 3}).ledger, 1, 2);
        order("between two", offers(new int[] {10, 10}, new int[] {12, 10}, new int[] {11, 10},
                new int[] {10, 10}).ledger, 1, 4, 3, 2);
        order("from the worst on", offers(new int[] {14, 10}, new int[] {13, 10},
                new int[] {12, 10}, new int[] {11, 10}).ledger, 4, 3, 2, 1);
    }

    /** 99998 / 99999 is less than 99999 / 100000 by less than a ten thousand millionth. */
    private static void productsBeyondInts() {
        order("great and close", offers(new int[] {99999, 100000}, new int[] {99998, 99999}).ledger,
                2, 1);
        order("equal", offers(new int[] {100000, 100000}, new int[] {99999, 99999}).ledger, 1, 2);
        order("30000 * 100000 and 1", offers(new int[] {30000, 1}, new int[] {1, 100000}).ledger,
                2, 1);
        order("1 and 30000 * 100000", offers(new int[] {1, 100000}, new int[] {30000, 1}).ledger,
                1, 2);
        order("100000 * 100000 and 1", offers(new int[] {100000, 1}, new int[] {1, 100000}).ledger,
                2, 1);
    }

    private static void aRestComesBehindItsEquals() {
        Bench bench = offers();
        CHECKS.same("to cross with", bench.as(3).offer(0, 8, 4, 8, 0), 0);
        CHECKS.same("its owner does not cross it", bench.as(3).offer(4, 10, 0, 10, 0), 0);
        CHECKS.same("crossed, a rest placed", bench.as(1).offer(4, 20, 0, 20, 0), 0);
        CHECKS.same("rest", bench.ledger.offerOf(3, 0), 12);
        CHECKS.same("rest", bench.ledger.offerOf(3, 1), 12);
        order("equal", bench.ledger, 2, 3);
        CHECKS.same("partly taken", bench.as(2).offer(0, 5, 4, 5, 0), TollLedger.SHORT);
        bench.issue(2, 4, 5);
        CHECKS.same("partly taken", bench.as(2).offer(0, 5, 4, 5, 0), 0);
        CHECKS.same("of the first", bench.ledger.offerOf(2, 1), 5);
        order("still equal", bench.ledger, 2, 3);
    }

    /** Of 10 for 3, 2 go for 7, so 3 for 1 are left, which is better than 10 for 3. */
    private static void roundingMovesAnOfferUp() {
        Bench bench = offers(new int[] {10, 3}, new int[] {10, 3});
        CHECKS.same("trust", bench.as(1).trust(3, 1, 1000, false), 0);
        bench.ledger.spend(4, 1000, false);
        CHECKS.same("pay", bench.as(3).pay(1, 4, 100), 0);
        order("before", bench.ledger, 1, 2);
        // Account 1 leaves its own offer out and takes from the second.
        CHECKS.same("2 coins for 7", bench.as(1).offer(0, 2, 4, 7, 2), 0);
        CHECKS.same("wants", bench.ledger.offerOf(2, 0), 3);
        CHECKS.same("gives", bench.ledger.offerOf(2, 1), 1);
        order("after", bench.ledger, 2, 1);
    }

    private static void whatIsGoneLeavesNoGap() {
        Bench bench = offers(new int[] {10, 10}, new int[] {11, 10}, new int[] {12, 10},
                new int[] {13, 10});
        CHECKS.same("cancel", bench.as(1).cancel(3), 0);
        order("middle cancelled", bench.ledger, 1, 2, 4);
        CHECKS.same("cancel", bench.as(1).cancel(1), 0);
        order("first cancelled", bench.ledger, 2, 4);
        CHECKS.same("cancel", bench.as(2).cancel(4), 0);
        order("last cancelled", bench.ledger, 2);
        CHECKS.same("cancel", bench.as(2).cancel(2), 0);
        order("all cancelled", bench.ledger);
    }

    private static void twelveInOneBook() {
        int[][] pairs = new int[12][];
        int[] ids = new int[12];
        for (int i = 0; i < 12; i++) {
            pairs[i] = new int[] {50 - i, 10};
            ids[i] = 12 - i;
        }
        Bench bench = offers(pairs);
        order("twelve", bench.ledger, ids);
        CHECKS.same("a thirteenth", bench.as(1).offer(4, 5, 0, 5, 0), TollLedger.RESERVE);
        order("still twelve", bench.ledger, ids);
    }

    private static void twelveOverAllBooks() {
        Bench bench = new Bench(CHECKS).settlers(5, 5000);
        for (int k = 1; k <= 12; k++) {
            CHECKS.same("offer", bench.as(k % 6).offer(k, 5, 0, 5, 0), 0);
        }
        CHECKS.same("another book", bench.as(1).offer(0, 5, 2, 4, 0), TollLedger.RESERVE);
        CHECKS.same("none", bench.ledger.book(0, 2, -1), 0);
        CHECKS.same("cancel", bench.as(0).cancel(12), 0);
        CHECKS.same("room", bench.as(1).offer(0, 5, 2, 4, 0), 0);
        CHECKS.same("its id", bench.ledger.book(0, 2, 0), 13);
    }

    private static void idsAreNeverGivenAgain() {
        Bench bench = new Bench(CHECKS).settlers(1, 5000);
        for (int id = 1; id <= 20; id++) {
            CHECKS.same("offer", bench.as(1).offer(4, 5, 0, 5, 0), 0);
            CHECKS.same("its id", bench.ledger.book(4, 0, 0), id);
            CHECKS.same("owner", bench.ledger.offerOf(id, 2), 1);
            CHECKS.same("the one before", bench.ledger.offerOf(id - 1, 2), -1);
            CHECKS.same("cancel", bench.as(1).cancel(id), 0);
        }
    }
}
