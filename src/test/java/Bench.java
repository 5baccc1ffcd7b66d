/** A ledger to test, with the steps that most tests begin with. */
final class Bench {
    final TollLedger ledger = new TollLedger();
    private final Checks checks;

    Bench(Checks checks) {
        this.checks = checks;
    }

    /** The ledger, ready for one transaction by a with its right number. */
    TollLedger as(int a) {
        checks.yes("by " + a, ledger.by(a, ledger.account(a, 1)));
        return ledger;
    }

    /** Makes the accounts 1 .. last with so many coins each. */
    Bench settlers(int last, int coins) {
        for (int b = 1; b <= last; b++) {
            checks.same("first sending to " + b, as(0).send(b, coins), 0);
        }
        return this;
    }

    /** Lets a trust k's issuer far enough and have v of k. */
    Bench issue(int a, int k, int v) {
        int issuer = (k - 1) % 6;
        checks.same("trust for issue", as(a).trust(issuer, k < 7 ? 1 : 2, 100000, false), 0);
        if (v > 0) {
            ledger.spend(k, 1000000, false);
            checks.same("issue", as(issuer).pay(a, k, v), 0);
        }
        return this;
    }

    /** A call that changes nothing must leave the root as it was. */
    void unchanged(String what, int root) {
        checks.same("root after " + what, ledger.root(), root);
    }
}
