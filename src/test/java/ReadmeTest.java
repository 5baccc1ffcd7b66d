/** The example of README.md, call by call, with the answers that are told there. */
public final class ReadmeTest {
    private static final Checks CHECKS = new Checks();

    public static void main(String[] args) {
        TollLedger ledger = new TollLedger();
        CHECKS.yes("by(0, 1)", ledger.by(0, 1));
        CHECKS.same("send(1, 50000)", ledger.send(1, 50000), 0);
        CHECKS.same("send(1, 50000) again", ledger.send(1, 50000), TollLedger.LATE);
        CHECKS.yes("by(1, 1)", ledger.by(1, 1));
        CHECKS.same("trust(0, 1, 500, false)", ledger.trust(0, 1, 500, false), 0);
        CHECKS.yes("by(0, 2)", ledger.by(0, 2));
        CHECKS.yes("spend(1, 1000, false)", ledger.spend(1, 1000, false));
        CHECKS.same("pay(1, 1, 300)", ledger.pay(1, 1, 300), 0);
        CHECKS.yes("by(0, 3)", ledger.by(0, 3));
        CHECKS.same("pay(1, 1, 300) again", ledger.pay(1, 1, 300), TollLedger.DRY);
        CHECKS.same("balance(1, 0, 1)", ledger.balance(1, 0, 1), 300);
        CHECKS.same("account(0, 1)", ledger.account(0, 1), 4);
        CHECKS.same("burnt()", ledger.burnt(), 40);
        CHECKS.end();
    }
}
