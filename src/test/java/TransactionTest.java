/** Promises 1, 2, 3, 5, 13 and 20. */
public final class TransactionTest {
    private static final Checks CHECKS = new Checks();

    public static void main(String[] args) {
        promise1();
        promise1HoldsFor512Calls();
        promise2();
        promise3();
        promise3Short();
        promise5();
        promise13();
        promise20();
        CHECKS.end();
    }

    private static void promise1() {
        TollLedger x = new TollLedger();
        CHECKS.same("clock", x.tick(0), 0);
        CHECKS.same("coins", x.account(0, 0), 1000000);
        CHECKS.same("number", x.account(0, 1), 1);
        CHECKS.same("rate", x.account(0, 2), 0);
        CHECKS.same("pieces", x.account(0, 3), 0);
        for (int a = 1; a < 6; a++) {
            CHECKS.same("coins of " + a, x.account(a, 0), -1);
            CHECKS.same("balance", x.balance(0, a, 1), 0);
            CHECKS.same("limit", x.limit(a, 0, 2), 0);
        }
        CHECKS.same("burnt", x.burnt(), 0);
        CHECKS.same("book", x.book(0, 1, -1), 0);
        CHECKS.same("offer", x.offerOf(1, 0), -1);
        CHECKS.same("deposit", x.depositOf(1), -1);
        long[] leaves = new long[64];
        leaves[0] = 1000000L * 1024 + 1;
        CHECKS.same("root", x.root(), Folding.rootOf(leaves));
    }

    /** Five hundred and twelve calls, the last of which is the root. */
    private static void promise1HoldsFor512Calls() {
        TollLedger x = new TollLedger();
        for (int i = 1; i <= 255; i++) {
            CHECKS.yes("by", x.by(0, i));
            CHECKS.same("rate", x.rate(i % 201), 0);
        }
        CHECKS.same("call 511", x.tick(1000), 1000);
        long[] leaves = new long[64];
        leaves[0] = (1000000L - 2550) * 1024 + 256 + 300007L * (255 % 201);
        CHECKS.same("call 512", x.root(), Folding.rootOf(leaves));
        TollLedger clock = new TollLedger();
        for (int i = 1; i <= 512; i++) {
            CHECKS.same("tick " + i, clock.tick(1000), 1000 * i);
        }
    }

    private static void promise2() {
        TollLedger x = new TollLedger();
        CHECKS.yes("by(0, 1)", x.by(0, 1));
        CHECKS.no("by(-1, 1)", x.by(-1, 1));
        CHECKS.no("by(6, 1)", x.by(6, 1));
        CHECKS.no("by(1, 0)", x.by(1, 0));
        CHECKS.no("by(1, -1)", x.by(1, -1));
        CHECKS.no("by(1, 1000001)", x.by(1, 1000001));
        CHECKS.same("still by(0, 1)", x.rate(7), 0);
        CHECKS.same("number is not counted on", x.rate(8), -4);
        CHECKS.same("rate", x.account(0, 2), 7);
        CHECKS.yes("by(5, 1)", x.by(5, 1));
        CHECKS.same("by 5", x.rate(8), -2);
        CHECKS.yes("by(0, 1000000)", x.by(0, 1000000));
        CHECKS.same("by 0 with 1000000", x.rate(8), -3);
        CHECKS.yes("by(0, 2)", x.by(0, 2));
        CHECKS.no("by(0, 1000001)", x.by(0, 1000001));
        CHECKS.same("still by(0, 2)", x.rate(8), 0);
    }

    private static void promise3() {
        Bench bench = new Bench(CHECKS);
        CHECKS.same("99 to nobody", bench.as(0).send(1, 99), 21);
        CHECKS.same("coins", bench.ledger.account(0, 0), 999990);
        CHECKS.same("number", bench.ledger.account(0, 1), 2);
        CHECKS.same("nobody", bench.ledger.account(1, 0), -1);
        CHECKS.same("100 to nobody", bench.as(0).send(1, 100), 0);
        CHECKS.same("coins", bench.ledger.account(0, 0), 999880);
        CHECKS.same("new coins", bench.ledger.account(1, 0), 100);
        CHECKS.same("new number", bench.ledger.account(1, 1), 1);
        CHECKS.same("new rate", bench.ledger.account(1, 2), 0);
        CHECKS.same("1 to somebody", bench.as(0).send(1, 1), 0);
        CHECKS.same("coins", bench.ledger.account(1, 0), 101);
        CHECKS.same("rate", bench.as(1).rate(30), 0);
        CHECKS.same("again to somebody", bench.as(0).send(1, 500), 0);
        CHECKS.same("number stays", bench.ledger.account(1, 1), 2);
        CHECKS.same("rate stays", bench.ledger.account(1, 2), 30);
        CHECKS.same("coins", bench.ledger.account(1, 0), 591);
    }

    private static void promise3Short() {
        Bench bench = new Bench(CHECKS).settlers(1, 100);
        CHECKS.same("send", bench.as(0).send(2, 150), 0);
        CHECKS.same("41 of 40", bench.as(2).send(1, 41), 22);
        CHECKS.same("coins", bench.ledger.account(2, 0), 140);
        CHECKS.same("30 of 30", bench.as(2).send(1, 30), 0);
        CHECKS.same("coins", bench.ledger.account(2, 0), 100);
        CHECKS.same("1 of 0", bench.as(2).send(1, 1), 22);
        CHECKS.same("99 to nobody", bench.as(2).send(3, 99), 21);
        CHECKS.same("100 to nobody", bench.as(2).send(3, 100), 22);
        CHECKS.same("nobody", bench.ledger.account(3, 0), -1);
        CHECKS.same("coins", bench.ledger.account(2, 0), 70);
    }

    private static void promise5() {
        Bench bench = new Bench(CHECKS);
        CHECKS.same("rate(200)", bench.as(0).rate(200), 0);
        CHECKS.same("rate", bench.ledger.account(0, 2), 200);
        int root = bench.ledger.root();
        CHECKS.same("rate(201)", bench.as(0).rate(201), -1);
        CHECKS.same("rate(-1)", bench.as(0).rate(-1), -1);
        bench.unchanged("wrong rate", root);
        CHECKS.same("rate(0)", bench.as(0).rate(0), 0);
        CHECKS.same("rate", bench.ledger.account(0, 2), 0);
        CHECKS.same("fee", bench.ledger.account(0, 0), 999980);
    }

    private static void promise13() {
        Bench bench = new Bench(CHECKS).settlers(2, 5000);
        TollLedger x = bench.ledger;
        for (int what : new int[] {-1, 4, Integer.MAX_VALUE, Integer.MIN_VALUE}) {
            CHECKS.same("what " + what, x.account(1, what), -1);
        }
        for (int a : new int[] {-1, 6, 3, Integer.MAX_VALUE, Integer.MIN_VALUE}) {
            CHECKS.same("account " + a, x.account(a, 0), -1);
        }
        CHECKS.same("a line", bench.as(1).trust(0, 1, 1, false), 0);
        CHECKS.same("a line", bench.as(1).trust(0, 2, 1, false), 0);
        CHECKS.same("a quiet line without limit", bench.as(1).trust(2, 2, 0, true), 0);
        CHECKS.same("pieces", x.account(1, 3), 2);
        CHECKS.same("an offer", bench.as(1).offer(1, 5, 0, 5, 0), 0);
        CHECKS.same("a deposit", bench.as(1).deposit(2, 5, 0, 5), 0);
        CHECKS.same("pieces", x.account(1, 3), 4);
        CHECKS.same("pieces of the other", x.account(2, 3), 0);
        // What 1 owes 2 is a piece of 2 even without a limit, and none of 1.
        CHECKS.same("a line", bench.as(2).trust(1, 1, 50, false), 0);
        x.spend(2, 1000, false);
        CHECKS.same("pay", bench.as(1).pay(2, 2, 50), 0);
        CHECKS.same("no limit", bench.as(2).trust(1, 1, 0, false), 0);
        CHECKS.same("pieces", x.account(2, 3), 1);
        CHECKS.same("pieces", x.account(1, 3), 4);
        CHECKS.same("coins", x.account(2, 0), 4980);
        CHECKS.same("number", x.account(2, 1), 3);
    }

    private static void promise20() {
        Bench bench = new Bench(CHECKS).settlers(1, 1000);
        CHECKS.same("done", bench.ledger.burnt(), 10);
        CHECKS.same("claimed", bench.as(1).cancel(1), 26);
        CHECKS.same("burnt", bench.ledger.burnt(), 20);
        CHECKS.same("refused", bench.as(1).cancel(0), -1);
        CHECKS.same("burnt", bench.ledger.burnt(), 20);
        CHECKS.same("coins", bench.ledger.account(1, 0), 990);
    }
}
