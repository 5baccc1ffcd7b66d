import java.util.Arrays;

/**
 * Every argument of every method at both ends of the range that the document names, just outside
 * it, and far outside: the least and the greatest int.
 */
public final class ArgumentsTest {
    private static final Checks CHECKS = new Checks();
    private static final int LEAST = Integer.MIN_VALUE;
    private static final int MOST = Integer.MAX_VALUE;

    private interface Call {
        int on(TollLedger x, int... args);
    }

    public static void main(String[] args) {
        sendArguments();
        trustArguments();
        rateArguments();
        payArguments();
        offerArguments();
        cancelArguments();
        depositArguments();
        settleArguments();
        byArguments();
        spendArguments();
        tickArguments();
        accountArguments();
        lineArguments();
        fundsArguments();
        bookArguments();
        offerOfArguments();
        depositOfArguments();
        CHECKS.end();
    }

    /** All six accounts; 0 and 5 let 1 owe them; 1 signs. Asset 2 is currency 1 issued by 1. */
    private static Bench scene() {
        Bench bench = new Bench(CHECKS).settlers(5, 50000);
        CHECKS.same("trust", bench.as(0).trust(1, 1, 1000, false), 0);
        CHECKS.same("trust", bench.as(5).trust(1, 1, 1000, false), 0);
        CHECKS.yes("spend", bench.ledger.spend(2, 1000, false));
        bench.as(1);
        return bench;
    }

    /** The call with one argument put in the place of another. */
    private static int with(Call call, TollLedger x, int[] base, int place, int value) {
        int[] args = base.clone();
        args[place] = value;
        return call.on(x, args);
    }

    /** Each value is outside: BAD, and nothing has changed. */
    private static void outside(String name, Call call, int[] base, int place, int... values) {
        for (int value : values) {
            TollLedger x = scene().ledger;
            int root = x.root();
            int burnt = x.burnt();
            String what = name + " " + Arrays.toString(base) + ", argument " + place + ": " + value;
            CHECKS.same(what, with(call, x, base, place, value), TollLedger.BAD);
            CHECKS.same("root after " + what, x.root(), root);
            CHECKS.same("burnt after " + what, x.burnt(), burnt);
        }
    }

    /** The value is inside: it is done (0) or claimed, as due. */
    private static void inside(String name, Call call, int[] base, int place, int value, int due) {
        TollLedger x = scene().ledger;
        String what = name + " " + Arrays.toString(base) + ", argument " + place + ": " + value;
        CHECKS.same(what, with(call, x, base, place, value), due);
        CHECKS.same("number after " + what, x.account(1, 1), 2);
    }

    private static void sendArguments() {
        Call send = (x, v) -> x.send(v[0], v[1]);
        int[] base = {0, 500};
        outside("send", send, base, 0, LEAST, -1, 1, 6, MOST);
        inside("send", send, base, 0, 0, 0);
        inside("send", send, base, 0, 2, 0);
        inside("send", send, base, 0, 5, 0);
        outside("send", send, base, 1, LEAST, -1, 0, 1000001, MOST);
        inside("send", send, base, 1, 1, 0);
        inside("send", send, base, 1, 2, 0);
        inside("send", send, base, 1, 999999, TollLedger.SHORT);
        inside("send", send, base, 1, 1000000, TollLedger.SHORT);
    }

    private static void trustArguments() {
        Call trust = (x, v) -> x.trust(v[0], v[1], v[2], true);
        int[] base = {0, 1, 10};
        outside("trust", trust, base, 0, LEAST, -1, 1, 6, MOST);
        inside("trust", trust, base, 0, 0, 0);
        inside("trust", trust, base, 0, 5, 0);
        outside("trust", trust, base, 1, LEAST, -1, 0, 3, MOST);
        inside("trust", trust, base, 1, 1, 0);
        inside("trust", trust, base, 1, 2, 0);
        outside("trust", trust, base, 2, LEAST, -1, 100001, MOST);
        inside("trust", trust, base, 2, 0, 0);
        inside("trust", trust, base, 2, 1, 0);
        inside("trust", trust, base, 2, 99999, 0);
        inside("trust", trust, base, 2, 100000, 0);
    }

    private static void rateArguments() {
        Call rate = (x, v) -> x.rate(v[0]);
        int[] base = {7};
        outside("rate", rate, base, 0, LEAST, -1, 201, MOST);
        inside("rate", rate, base, 0, 0, 0);
        inside("rate", rate, base, 0, 1, 0);
        inside("rate", rate, base, 0, 199, 0);
        inside("rate", rate, base, 0, 200, 0);
    }

    private static void payArguments() {
        Call pay = (x, v) -> x.pay(v[0], v[1], v[2]);
        int[] base = {0, 2, 5};
        outside("pay", pay, base, 0, LEAST, -1, 1, 6, MOST);
        inside("pay", pay, base, 0, 0, 0);
        inside("pay", pay, base, 0, 5, 0);
        outside("pay", pay, base, 1, LEAST, -1, 0, 13, MOST);
        inside("pay", pay, base, 1, 1, TollLedger.DRY);
        inside("pay", pay, base, 1, 2, 0);
        inside("pay", pay, base, 1, 12, TollLedger.DRY);
        outside("pay", pay, base, 2, LEAST, -1, 0, 401, MOST);
        inside("pay", pay, base, 2, 1, 0);
        inside("pay", pay, base, 2, 399, 0);
        inside("pay", pay, base, 2, 400, 0);
    }

    private static void offerArguments() {
        Call offer = (x, v) -> x.offer(v[0], v[1], v[2], v[3], v[4]);
        int[] base = {1, 10, 2, 10, 0};
        outside("offer", offer, base, 0, LEAST, -1, 2, 13, MOST);
        inside("offer", offer, base, 0, 0, 0);
        inside("offer", offer, base, 0, 12, 0);
        outside("offer", offer, base, 1, LEAST, -1, 0, 100001, MOST);
        inside("offer", offer, base, 1, 1, 0);
        inside("offer", offer, base, 1, 100000, 0);
        outside("offer", offer, base, 2, LEAST, -1, 1, 13, MOST);
        inside("offer", offer, base, 2, 0, 0);
        inside("offer", offer, base, 2, 8, 0);
        inside("offer", offer, base, 2, 12, TollLedger.SHORT);
        outside("offer", offer, base, 3, LEAST, -1, 0, 100001, MOST);
        inside("offer", offer, base, 3, 1, 0);
        inside("offer", offer, base, 3, 100000, 0);
        outside("offer", offer, base, 4, LEAST, -1, 3, MOST);
        inside("offer", offer, base, 4, 1, TollLedger.KILLED);
        inside("offer", offer, base, 4, 2, TollLedger.KILLED);
        // Both are the same: the coin, and the last asset.
        outside("offer", offer, new int[] {0, 10, 2, 10, 0}, 2, 0);
        outside("offer", offer, new int[] {12, 10, 2, 10, 0}, 2, 12);
    }

    private static void cancelArguments() {
        Call cancel = (x, v) -> x.cancel(v[0]);
        outside("cancel", cancel, new int[] {1}, 0, LEAST, -1, 0);
        inside("cancel", cancel, new int[] {1}, 0, 1, TollLedger.NONE);
        inside("cancel", cancel, new int[] {1}, 0, MOST, TollLedger.NONE);
    }

    private static void depositArguments() {
        Call deposit = (x, v) -> x.deposit(v[0], v[1], v[2], v[3]);
        int[] base = {0, 5, 10, 20};
        outside("deposit", deposit, base, 0, LEAST, -1, 1, 6, MOST);
        inside("deposit", deposit, base, 0, 0, 0);
        inside("deposit", deposit, base, 0, 5, 0);
        outside("deposit", deposit, base, 1, LEAST, -1, 0, 1000001, MOST);
        inside("deposit", deposit, base, 1, 1, 0);
        inside("deposit", deposit, base, 1, 1000000, TollLedger.SHORT);
        outside("deposit", deposit, base, 2, LEAST, -1, 20, 21, MOST);
        inside("deposit", deposit, base, 2, 0, 0);
        inside("deposit", deposit, base, 2, 19, 0);
        outside("deposit", deposit, base, 3, LEAST, -1, 0, 9, 10, 100001, MOST);
        inside("deposit", deposit, base, 3, 11, 0);
        inside("deposit", deposit, base, 3, 100000, 0);
        int[] last = {0, 5, 99999, 100000};
        inside("deposit", deposit, last, 2, 99999, 0);
        outside("deposit", deposit, last, 2, 100000);
        outside("deposit", deposit, last, 3, 99999, 100001);
        outside("deposit", deposit, new int[] {0, 5, LEAST, MOST}, 3, MOST, 1);
        outside("deposit", deposit, new int[] {0, 5, -1, 0}, 3, 0, 5);
    }

    private static void settleArguments() {
        Call settle = (x, v) -> x.settle(v[0]);
        outside("settle", settle, new int[] {1}, 0, LEAST, -1, 0);
        inside("settle", settle, new int[] {1}, 0, 1, TollLedger.NONE);
        inside("settle", settle, new int[] {1}, 0, MOST, TollLedger.NONE);
    }

    /** What by() is told wrongly leaves what it was told before: account 1 with number 1. */
    private static void byArguments() {
        int[][] wrong = {{LEAST, 1}, {-1, 1}, {6, 1}, {MOST, 1}, {0, LEAST}, {0, -1}, {0, 0},
            {0, 1000001}, {0, MOST}, {LEAST, LEAST}, {MOST, MOST}};
        for (int[] w : wrong) {
            TollLedger x = scene().ledger;
            CHECKS.no("by(" + w[0] + ", " + w[1] + ")", x.by(w[0], w[1]));
            CHECKS.same("rate by 1", x.rate(33), 0);
            CHECKS.same("rate of 1", x.account(1, 2), 33);
        }
        TollLedger x = scene().ledger;
        CHECKS.yes("by(0, 1)", x.by(0, 1));
        CHECKS.same("by 0 with 1", x.rate(1), TollLedger.LATE);
        CHECKS.yes("by(0, 1000000)", x.by(0, 1000000));
        CHECKS.same("by 0 with 1000000", x.rate(1), TollLedger.EARLY);
        CHECKS.yes("by(5, 2)", x.by(5, 2));
        CHECKS.same("by 5 with 2", x.rate(1), 0);
        CHECKS.yes("by(5, 999999)", x.by(5, 999999));
        CHECKS.same("by 5 with 999999", x.rate(1), TollLedger.EARLY);
    }

    /** What spend() is told wrongly leaves what it was told before: at most 1000 of asset 2. */
    private static void spendArguments() {
        int[][] wrong = {{LEAST, 5}, {-1, 5}, {13, 5}, {MOST, 5}, {0, LEAST}, {0, -1}, {0, 0},
            {0, 1000001}, {0, MOST}, {LEAST, LEAST}, {MOST, MOST}};
        for (int[] w : wrong) {
            TollLedger x = scene().ledger;
            CHECKS.no("spend(" + w[0] + ", " + w[1] + ")", x.spend(w[0], w[1], true));
            CHECKS.same("pay with asset 2", x.pay(0, 2, 400), 0);
            CHECKS.same("balance", x.balance(0, 1, 1), 400);
        }
        for (int s = 0; s <= 12; s++) {
            TollLedger x = scene().ledger;
            CHECKS.yes("spend " + s, x.spend(s, 1000, false));
            CHECKS.same("pay with " + s, x.pay(0, 2, 5), s == 2 ? 0 : TollLedger.DRY);
        }
        for (int max : new int[] {1, 2, 999999, 1000000}) {
            TollLedger x = scene().ledger;
            CHECKS.yes("spend at most " + max, x.spend(2, max, true));
            CHECKS.same("pay", x.pay(0, 2, 400), 0);
            CHECKS.same("balance", x.balance(0, 1, 1), Math.min(max, 400));
        }
    }

    private static void tickArguments() {
        TollLedger x = new TollLedger();
        CHECKS.same("tick(0)", x.tick(0), 0);
        CHECKS.same("tick(1)", x.tick(1), 1);
        CHECKS.same("tick(999)", x.tick(999), 1000);
        CHECKS.same("tick(1000)", x.tick(1000), 2000);
        for (int n : new int[] {LEAST, -1000, -1, 1001, MOST}) {
            CHECKS.same("tick(" + n + ")", x.tick(n), 2000);
        }
        CHECKS.same("tick(0)", x.tick(0), 2000);
    }

    private static void accountArguments() {
        TollLedger x = scene().ledger;
        int[][] due = {{749940, 7, 0, 1}, {50000, 1, 0, 0}, {50000, 1, 0, 0}, {50000, 1, 0, 0},
            {50000, 1, 0, 0}, {49990, 2, 0, 1}};
        for (int a = 0; a < 6; a++) {
            for (int what = 0; what < 4; what++) {
                CHECKS.same("account " + a + " " + what, x.account(a, what), due[a][what]);
            }
            for (int what : new int[] {LEAST, -1, 4, MOST}) {
                CHECKS.same("account " + a + " " + what, x.account(a, what), -1);
            }
        }
        for (int a : new int[] {LEAST, -1, 6, MOST}) {
            for (int what : new int[] {LEAST, -1, 0, 1, 2, 3, 4, MOST}) {
                CHECKS.same("account " + a + " " + what, x.account(a, what), -1);
            }
        }
    }

    private static void lineArguments() {
        Bench bench = scene();
        TollLedger x = bench.ledger;
        CHECKS.same("pay", x.pay(5, 2, 40), 0);
        CHECKS.same("balance", x.balance(5, 1, 1), 40);
        CHECKS.same("limit", x.limit(5, 1, 1), 1000);
        int[][] wrong = {{LEAST, 1, 1}, {-1, 1, 1}, {6, 1, 1}, {MOST, 1, 1}, {5, LEAST, 1},
            {5, -1, 1}, {5, 6, 1}, {5, MOST, 1}, {5, 1, LEAST}, {5, 1, -1}, {5, 1, 0}, {5, 1, 3},
            {5, 1, MOST}, {5, 5, 1}, {1, 1, 1}, {0, 0, 2}, {LEAST, LEAST, 1}, {MOST, MOST, 2}};
        for (int[] w : wrong) {
            String line = w[0] + " " + w[1] + " " + w[2];
            CHECKS.same("balance " + line, x.balance(w[0], w[1], w[2]), 0);
            CHECKS.same("limit " + line, x.limit(w[0], w[1], w[2]), 0);
        }
    }

    private static void fundsArguments() {
        TollLedger x = scene().ledger;
        CHECKS.same("funds(0, 0)", x.funds(0, 0), 749940 - 120);
        CHECKS.same("funds(5, 12)", x.funds(5, 12), 1000000000);
        CHECKS.same("funds(0, 12)", x.funds(0, 12), 0);
        int[][] wrong = {{LEAST, 0}, {-1, 0}, {6, 0}, {MOST, 0}, {0, LEAST}, {0, -1}, {0, 13},
            {0, MOST}, {LEAST, LEAST}, {MOST, MOST}};
        for (int[] w : wrong) {
            CHECKS.same("funds " + w[0] + " " + w[1], x.funds(w[0], w[1]), -1);
        }
        TollLedger alone = new TollLedger();
        for (int a = 1; a < 6; a++) {
            CHECKS.same("coins of nobody", alone.funds(a, 0), -1);
            CHECKS.same("own paper of nobody", alone.funds(a, 1 + a), -1);
            CHECKS.same("other paper of nobody", alone.funds(a, 1), -1);
        }
    }

    private static void bookArguments() {
        TollLedger x = scene().ledger;
        CHECKS.same("offer", x.offer(12, 5, 0, 5, 0), 0);
        CHECKS.same("book(12, 0, 0)", x.book(12, 0, 0), 1);
        CHECKS.same("book(12, 0, -1)", x.book(12, 0, -1), 1);
        CHECKS.same("book(0, 12, -1)", x.book(0, 12, -1), 0);
        for (int n : new int[] {LEAST, -3, -2, 1, 2, 11, 12, MOST}) {
            CHECKS.same("book(12, 0, " + n + ")", x.book(12, 0, n), -1);
        }
        for (int k = 0; k <= 12; k++) {
            CHECKS.same("size where both are " + k, x.book(k, k, -1), 0);
            CHECKS.same("place 0 where both are " + k, x.book(k, k, 0), -1);
        }
        for (int wrong : new int[] {LEAST, -1, 13, MOST}) {
            for (int n : new int[] {LEAST, -2, -1, 0, 1, MOST}) {
                CHECKS.same("book(" + wrong + ", 0, " + n + ")", x.book(wrong, 0, n), -1);
                CHECKS.same("book(12, " + wrong + ", " + n + ")", x.book(12, wrong, n), -1);
                CHECKS.same("both " + wrong + ", " + n, x.book(wrong, wrong, n), -1);
            }
        }
    }

    private static void offerOfArguments() {
        TollLedger x = scene().ledger;
        CHECKS.same("no offer yet", x.offerOf(1, 0), -1);
        CHECKS.same("offer", x.offer(12, 5, 0, 6, 0), 0);
        int[] due = {5, 6, 1};
        for (int what = 0; what < 3; what++) {
            CHECKS.same("offerOf(1, " + what + ")", x.offerOf(1, what), due[what]);
            for (int id : new int[] {LEAST, -1, 0, 2, 3, MOST}) {
                CHECKS.same("offerOf(" + id + ", " + what + ")", x.offerOf(id, what), -1);
            }
        }
        for (int what : new int[] {LEAST, -1, 3, MOST}) {
            CHECKS.same("offerOf(1, " + what + ")", x.offerOf(1, what), -1);
            CHECKS.same("offerOf(2, " + what + ")", x.offerOf(2, what), -1);
        }
    }

    private static void depositOfArguments() {
        TollLedger x = scene().ledger;
        CHECKS.same("no deposit yet", x.depositOf(1), -1);
        CHECKS.same("deposit", x.deposit(0, 7, 0, 5), 0);
        CHECKS.same("depositOf(1)", x.depositOf(1), 7);
        for (int id : new int[] {LEAST, -1, 0, 2, 3, MOST}) {
            CHECKS.same("depositOf(" + id + ")", x.depositOf(id), -1);
        }
    }
}
