/**
 * Promise 8: where a crossing ends. It goes on as long as w is not taken, also when nothing is left
 * of g or of the funds, and what it goes through without funds is gone. Assets 1 and 7 are issued
 * by account 0.
 */
public final class CrossingEndTest {
    private static final Checks CHECKS = new Checks();
    private static final int PLENTY = 400;

    public static void main(String[] args) {
        endsWhenAllIsTaken();
        goesOnWhenNothingIsLeftOfG();
        goesOnWhenNothingIsLeftOfTheFunds();
        endsAtTheFirstThatIsTooDear();
        CHECKS.end();
    }

    /**
     * Accounts 1, 3, 4 and 5 offer 3 of asset 1 for 4 of asset 7, in this order; they can give 1,
     * 1, 0 and 1. One of them costs 2. Account 2 has so much of asset 7.
     */
    private static Bench fourOwners(int sevens) {
        Bench bench = new Bench(CHECKS).settlers(5, 5000).issue(2, 7, sevens);
        int[] owners = {1, 3, 4, 5};
        for (int owner : owners) {
            bench.issue(owner, 1, 1);
            CHECKS.same("offer", bench.as(owner).offer(7, 4, 1, 3, 0), 0);
        }
        bench.ledger.spend(1, 1, false);
        CHECKS.same("4 pays all back", bench.as(4).pay(0, 1, 1), 0);
        return bench;
    }

    private static void taken(String what, TollLedger x, int got, int leftOfThird) {
        CHECKS.same(what + ": got", x.balance(2, 0, 1), got);
        CHECKS.same(what + ": first", x.offerOf(1, 1), got > 0 ? 2 : 3);
        CHECKS.same(what + ": second", x.offerOf(2, 1), got > 1 ? 2 : 3);
        CHECKS.same(what + ": third, without funds", x.offerOf(3, 1), leftOfThird);
        CHECKS.same(what + ": fourth, with funds", x.offerOf(4, 1), 3);
    }

    private static void endsWhenAllIsTaken() {
        for (int kind = 0; kind <= 2; kind++) {
            Bench bench = fourOwners(PLENTY);
            CHECKS.same("2 for 4", bench.as(2).offer(1, 2, 7, 4, kind), 0);
            taken("2 for 4, kind " + kind, bench.ledger, 2, 3);
        }
    }

    private static void goesOnWhenNothingIsLeftOfG() {
        for (int kind = 0; kind <= 1; kind++) {
            Bench bench = fourOwners(PLENTY);
            CHECKS.same("3 for 4", bench.as(2).offer(1, 3, 7, 4, kind), 0);
            taken("3 for 4, kind " + kind, bench.ledger, 2, -1);
            CHECKS.same("no rest", bench.ledger.book(1, 7, -1), 0);
        }
        Bench bench = fourOwners(PLENTY);
        CHECKS.same("3 for 4", bench.as(2).offer(1, 3, 7, 4, 2), TollLedger.KILLED);
        taken("3 for 4, kind 2", bench.ledger, 0, 3);
    }

    private static void goesOnWhenNothingIsLeftOfTheFunds() {
        for (int kind = 0; kind <= 1; kind++) {
            Bench bench = fourOwners(4);
            CHECKS.same("9 for 12", bench.as(2).offer(1, 9, 7, 12, kind), 0);
            taken("9 for 12, kind " + kind, bench.ledger, 2, -1);
            CHECKS.same("nothing left", bench.ledger.balance(2, 0, 2), 0);
            CHECKS.same("rest wants", bench.ledger.offerOf(5, 0), kind == 0 ? 7 : -1);
            CHECKS.same("rest gives", bench.ledger.offerOf(5, 1), kind == 0 ? 8 : -1);
        }
        Bench bench = fourOwners(4);
        CHECKS.same("9 for 12", bench.as(2).offer(1, 9, 7, 12, 2), TollLedger.KILLED);
        taken("9 for 12, kind 2", bench.ledger, 0, 3);
    }

    /** 4 for 5 is less than 4 * 4 / 3, so nothing of the book is gone through. */
    private static void endsAtTheFirstThatIsTooDear() {
        Bench bench = fourOwners(PLENTY);
        CHECKS.same("4 for 5", bench.as(2).offer(1, 4, 7, 5, 0), 0);
        taken("4 for 5", bench.ledger, 0, 3);
        CHECKS.same("all is placed", bench.ledger.offerOf(5, 0), 4);
    }
}
