/**
 * Terms, A TRANSACTION: BAD, NOBODY, EARLY, LATE, POOR, of which the first that holds is answered,
 * for each of the eight transactions; and that a refused one changes nothing.
 */
public final class RefusalTest {
    private static final Checks CHECKS = new Checks();

    public static void main(String[] args) {
        for (Transaction t : Transaction.values()) {
            byNeverAnsweredTrue(t);
            accountDoesNotExist(t);
            numberIsGreater(t);
            numberIsLess(t);
            fewerThanTenCoins(t, 109, 9);
            fewerThanTenCoins(t, 100, 0);
            tenCoinsAreEnough(t);
            otherIsTheAccountItself(t);
            aBadOneLeavesTheNumberToTheNext(t);
            theNumberIsForOneOnly(t);
        }
        nothingIsClaimedByOneThatIsRefused();
        theNumberGrowsInItsOwnAccountOnly();
        CHECKS.end();
    }

    /** Tells a refusal that is not the one due, or that changed something. */
    private static void refused(Transaction t, boolean good, TollLedger x, int b, int due) {
        int root = x.root();
        int burnt = x.burnt();
        int clock = x.tick(0);
        String what = (good ? "good " : "bad ") + t + " to " + b;
        CHECKS.same(what, good ? t.good(x, b) : t.bad(x, b), due);
        CHECKS.same("root after " + what, x.root(), root);
        CHECKS.same("burnt after " + what, x.burnt(), burnt);
        CHECKS.same("clock after " + what, x.tick(0), clock);
    }

    private static void byNeverAnsweredTrue(Transaction t) {
        TollLedger x = new TollLedger();
        refused(t, true, x, 1, TollLedger.BAD);
        refused(t, true, x, 0, TollLedger.BAD);
        CHECKS.no("by", x.by(6, 1));
        refused(t, true, x, 1, TollLedger.BAD);
        CHECKS.no("by", x.by(0, 0));
        refused(t, true, x, 1, TollLedger.BAD);
        refused(t, false, x, 1, TollLedger.BAD);
    }

    /** Whatever the number is: 1 would be right for an account that has just begun to exist. */
    private static void accountDoesNotExist(Transaction t) {
        for (int number : new int[] {1, 2, 1000000}) {
            for (int a : new int[] {1, 5}) {
                TollLedger x = new TollLedger();
                CHECKS.yes("by", x.by(a, number));
                refused(t, false, x, 0, TollLedger.BAD);
                refused(t, true, x, 0, TollLedger.NOBODY);
            }
        }
    }

    /** Account 1 with two transactions behind it: its number is 3. */
    private static Bench numberThree() {
        Bench bench = new Bench(CHECKS).settlers(1, 5000);
        CHECKS.same("rate", bench.as(1).rate(1), 0);
        CHECKS.same("rate", bench.as(1).rate(2), 0);
        CHECKS.same("number", bench.ledger.account(1, 1), 3);
        return bench;
    }

    private static void numberIsGreater(Transaction t) {
        for (int number : new int[] {4, 5, 1000000}) {
            TollLedger x = numberThree().ledger;
            CHECKS.yes("by", x.by(1, number));
            refused(t, false, x, 0, TollLedger.BAD);
            refused(t, true, x, 0, TollLedger.EARLY);
        }
    }

    private static void numberIsLess(Transaction t) {
        for (int number : new int[] {2, 1}) {
            TollLedger x = numberThree().ledger;
            CHECKS.yes("by", x.by(1, number));
            refused(t, false, x, 0, TollLedger.BAD);
            refused(t, true, x, 0, TollLedger.LATE);
        }
    }

    private static void fewerThanTenCoins(Transaction t, int first, int left) {
        Bench bench = new Bench(CHECKS).settlers(1, first);
        TollLedger x = bench.ledger;
        for (int r = 1; r <= 10; r++) {
            CHECKS.same("rate", bench.as(1).rate(r), 0);
        }
        CHECKS.same("coins", x.account(1, 0), left);
        x.by(1, 11);
        refused(t, false, x, 0, TollLedger.BAD);
        refused(t, true, x, 0, TollLedger.POOR);
        x.by(1, 12);
        refused(t, true, x, 0, TollLedger.EARLY);
        x.by(1, 10);
        refused(t, true, x, 0, TollLedger.LATE);
    }

    private static void tenCoinsAreEnough(Transaction t) {
        Bench bench = new Bench(CHECKS).settlers(1, 100);
        TollLedger x = bench.ledger;
        for (int r = 1; r <= 9; r++) {
            CHECKS.same("rate", bench.as(1).rate(r), 0);
        }
        CHECKS.same("coins", x.account(1, 0), 10);
        int burnt = x.burnt();
        CHECKS.yes(t + " with 10 coins", t.good(bench.as(1), 0) >= 0);
        CHECKS.same("coins", x.account(1, 0), 0);
        CHECKS.same("number", x.account(1, 1), 11);
        CHECKS.same("burnt", x.burnt(), burnt + 10);
    }

    /** BAD comes first even where the account that is meant does not exist. */
    private static void otherIsTheAccountItself(Transaction t) {
        boolean namesAnother = t == Transaction.SEND || t == Transaction.TRUST
                || t == Transaction.PAY || t == Transaction.DEPOSIT;
        for (int a = 0; a < 6 && namesAnother; a++) {
            TollLedger x = new Bench(CHECKS).settlers(3, 5000).ledger;
            int number = Math.max(1, x.account(a, 1));
            CHECKS.yes("by", x.by(a, number));
            refused(t, true, x, a, TollLedger.BAD);
            CHECKS.yes("by", x.by(a, number + 1));
            refused(t, true, x, a, TollLedger.BAD);
        }
    }

    private static void aBadOneLeavesTheNumberToTheNext(Transaction t) {
        Bench bench = numberThree();
        TollLedger x = bench.ledger;
        CHECKS.yes("by", x.by(1, 3));
        refused(t, false, x, 0, TollLedger.BAD);
        CHECKS.yes(t + " after a bad one", t.good(x, 0) >= 0);
        CHECKS.same("number", x.account(1, 1), 4);
        CHECKS.same("coins", x.account(0, 0) + x.account(1, 0) + deposited(x) + x.burnt(), 1000000);
    }

    private static int deposited(TollLedger x) {
        return Math.max(0, x.depositOf(1));
    }

    private static void theNumberIsForOneOnly(Transaction t) {
        TollLedger x = numberThree().ledger;
        CHECKS.yes("by", x.by(1, 3));
        CHECKS.yes(t + " with its number", t.good(x, 0) >= 0);
        refused(t, true, x, 0, TollLedger.LATE);
        CHECKS.yes("by", x.by(1, 5));
        refused(t, true, x, 0, TollLedger.EARLY);
        CHECKS.yes("by", x.by(1, 4));
        CHECKS.yes(t + " with the next", t.good(x, 0) >= 0);
    }

    /** Each would be claimed (21, 22, 26) if its number were right. */
    private static void nothingIsClaimedByOneThatIsRefused() {
        TollLedger x = new TollLedger();
        CHECKS.yes("by", x.by(0, 2));
        CHECKS.same("send to nobody", x.send(1, 99), TollLedger.EARLY);
        CHECKS.same("trust in nobody", x.trust(1, 1, 5, false), TollLedger.EARLY);
        CHECKS.same("offer without funds", x.offer(0, 5, 2, 5, 0), TollLedger.EARLY);
        CHECKS.same("no offer", x.cancel(1), TollLedger.EARLY);
        CHECKS.same("no deposit", x.settle(1), TollLedger.EARLY);
        CHECKS.yes("by", x.by(0, 1));
        CHECKS.same("send to nobody", x.send(1, 99), TollLedger.NO_OTHER);
        CHECKS.same("again", x.send(1, 99), TollLedger.LATE);
        CHECKS.same("burnt", x.burnt(), 10);
    }

    private static void theNumberGrowsInItsOwnAccountOnly() {
        Bench bench = numberThree();
        CHECKS.same("number of 0", bench.ledger.account(0, 1), 2);
        CHECKS.same("rate", bench.as(0).rate(9), 0);
        CHECKS.same("number of 0", bench.ledger.account(0, 1), 3);
        CHECKS.same("number of 1", bench.ledger.account(1, 1), 3);
        CHECKS.same("coins of 1", bench.ledger.account(1, 0), 4980);
    }
}
