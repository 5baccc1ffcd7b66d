/**
 * Terms, A TRANSACTION: a claimed one (21 and up) burns its fee, uses its number, and leaves all
 * else as it was; and where several claimed answers could be given, the one named first is.
 */
public final class ClaimTest {
    private static final Checks CHECKS = new Checks();

    /** The same calls each time, so that two ledgers can be compared. */
    private interface Scene {
        Bench set();
    }

    private interface Call {
        int on(TollLedger x);
    }

    public static void main(String[] args) {
        onlyFeeAndNumber();
        sendClaims();
        trustClaims();
        payClaims();
        offerClaims();
        offerClaimsLeaveUnfundedOffers();
        cancelClaims();
        depositClaims();
        settleClaims();
        claimsUseNoId();
        CHECKS.end();
    }

    /** The root of one claimed transaction, worked out by hand, to measure the others by. */
    private static void onlyFeeAndNumber() {
        TollLedger x = new TollLedger();
        CHECKS.yes("by", x.by(0, 1));
        CHECKS.same("cancel", x.cancel(Integer.MAX_VALUE), TollLedger.NONE);
        long[] leaves = new long[64];
        leaves[0] = 999990L * 1024 + 2;
        CHECKS.same("root", x.root(), Folding.rootOf(leaves));
        CHECKS.same("burnt", x.burnt(), 10);
    }

    /** What a claims must leave the ledger as a cancel() of no offer by a leaves it. */
    private static void claimed(String what, Scene scene, int a, Call call, int due) {
        Bench bench = scene.set();
        TollLedger x = bench.ledger;
        int coins = x.account(a, 0);
        int number = x.account(a, 1);
        int burnt = x.burnt();
        int clock = x.tick(0);
        CHECKS.same(what, call.on(bench.as(a)), due);
        CHECKS.same("coins after " + what, x.account(a, 0), coins - 10);
        CHECKS.same("number after " + what, x.account(a, 1), number + 1);
        CHECKS.same("burnt after " + what, x.burnt(), burnt + 10);
        CHECKS.same("clock after " + what, x.tick(0), clock);
        Bench twin = scene.set();
        CHECKS.same("measure", twin.as(a).cancel(Integer.MAX_VALUE), TollLedger.NONE);
        CHECKS.same("root after " + what, x.root(), twin.ledger.root());
    }

    private static void done(String what, Scene scene, int a, Call call) {
        CHECKS.same(what, call.on(scene.set().as(a)), 0);
    }

    /** Account 1 has 260 coins, so 150 to spend once the fee is burnt; 2 exists, 3 does not. */
    private static Bench smallPurse() {
        Bench bench = new Bench(CHECKS).settlers(1, 260);
        CHECKS.same("send", bench.as(0).send(2, 5000), 0);
        return bench;
    }

    private static void sendClaims() {
        Scene scene = ClaimTest::smallPurse;
        claimed("1 to nobody", scene, 1, x -> x.send(3, 1), TollLedger.NO_OTHER);
        claimed("99 to nobody", scene, 1, x -> x.send(3, 99), TollLedger.NO_OTHER);
        done("100 to nobody", scene, 1, x -> x.send(3, 100));
        done("99 to somebody", scene, 1, x -> x.send(2, 99));
        done("1 to somebody", scene, 1, x -> x.send(2, 1));
        done("150 of 150", scene, 1, x -> x.send(2, 150));
        claimed("151 of 150", scene, 1, x -> x.send(2, 151), TollLedger.SHORT);
        claimed("all its coins", scene, 1, x -> x.send(2, 250), TollLedger.SHORT);
        claimed("151 of 150 to nobody", scene, 1, x -> x.send(3, 151), TollLedger.SHORT);
        Scene empty = () -> {
            Bench bench = smallPurse();
            CHECKS.same("send", bench.as(1).send(2, 150), 0);
            return bench;
        };
        claimed("1 of 0", empty, 1, x -> x.send(2, 1), TollLedger.SHORT);
        claimed("nobody before short", empty, 1, x -> x.send(3, 99), TollLedger.NO_OTHER);
        claimed("short with 100", empty, 1, x -> x.send(3, 100), TollLedger.SHORT);
    }

    /** Account 1 will have 119 coins when its fee is burnt: one less than one piece asks. */
    private static Bench oneCoinTooFew() {
        Bench bench = new Bench(CHECKS).settlers(1, 129);
        CHECKS.same("send", bench.as(0).send(2, 5000), 0);
        return bench;
    }

    private static Bench justEnough() {
        Bench bench = oneCoinTooFew();
        CHECKS.same("send", bench.as(0).send(1, 1), 0);
        return bench;
    }

    private static void trustClaims() {
        Scene few = ClaimTest::oneCoinTooFew;
        Scene enough = ClaimTest::justEnough;
        claimed("nobody", enough, 1, x -> x.trust(3, 1, 5, true), TollLedger.NO_OTHER);
        claimed("nobody, no limit", enough, 1, x -> x.trust(3, 1, 0, true), TollLedger.NO_OTHER);
        claimed("nobody and reserve", few, 1, x -> x.trust(3, 1, 5, true), TollLedger.NO_OTHER);
        claimed("reserve", few, 1, x -> x.trust(2, 1, 1, true), TollLedger.RESERVE);
        done("no piece", few, 1, x -> x.trust(2, 1, 0, true));
        done("reserve just reached", enough, 1, x -> x.trust(2, 1, 1, true));
        Scene second = () -> {
            Bench bench = justEnough();
            CHECKS.same("trust", bench.as(1).trust(2, 1, 5, false), 0);
            return bench;
        };
        done("a piece that it owned", second, 1, x -> x.trust(2, 1, 100000, true));
        claimed("other currency", second, 1, x -> x.trust(2, 2, 5, true), TollLedger.RESERVE);
        claimed("other account", second, 1, x -> x.trust(0, 1, 5, true), TollLedger.RESERVE);
    }

    private static void payClaims() {
        Scene scene = () -> {
            Bench bench = new Bench(CHECKS).settlers(2, 5000).issue(1, 1, 100).issue(2, 1, 0);
            bench.ledger.spend(1, 1000, false);
            return bench;
        };
        claimed("nobody", scene, 1, x -> x.pay(3, 1, 5), TollLedger.NO_OTHER);
        claimed("nobody and dry", scene, 1, x -> x.pay(3, 1, 400), TollLedger.NO_OTHER);
        claimed("nobody is the issuer", scene, 1, x -> x.pay(3, 4, 5), TollLedger.NO_OTHER);
        claimed("dry", scene, 1, x -> x.pay(2, 1, 101), TollLedger.DRY);
        done("not dry", scene, 1, x -> x.pay(2, 1, 100));
        claimed("no book", scene, 1, x -> x.pay(2, 7, 1), TollLedger.DRY);
    }

    /** Account 1 has 5000 coins and 50 of asset 1, of which 2 offers 30 for 30 coins. */
    private static Bench market() {
        Bench bench = new Bench(CHECKS).settlers(2, 5000).issue(1, 1, 50).issue(2, 1, 50);
        CHECKS.same("offer", bench.as(2).offer(0, 30, 1, 30, 0), 0);
        return bench;
    }

    private static Bench fullMarket() {
        Bench bench = market();
        for (int i = 0; i < 11; i++) {
            CHECKS.same("offer", bench.as(2).offer(0, 900 + i, 1, 30, 0), 0);
        }
        return bench;
    }

    private static void offerClaims() {
        Scene market = ClaimTest::market;
        Scene full = ClaimTest::fullMarket;
        claimed("short", market, 1, x -> x.offer(0, 5, 7, 5, 0), TollLedger.SHORT);
        claimed("short, not killed", market, 1, x -> x.offer(0, 5, 7, 5, 1), TollLedger.SHORT);
        claimed("short, not killed", market, 1, x -> x.offer(0, 5, 7, 5, 2), TollLedger.SHORT);
        claimed("short, no place", full, 1, x -> x.offer(0, 5, 7, 5, 0), TollLedger.SHORT);
        claimed("31 of 30", market, 1, x -> x.offer(1, 31, 0, 31, 2), TollLedger.KILLED);
        done("30 of 30", market, 1, x -> x.offer(1, 30, 0, 30, 2));
        claimed("too cheap, kind 2", market, 1, x -> x.offer(1, 30, 0, 29, 2), TollLedger.KILLED);
        claimed("too cheap, kind 1", market, 1, x -> x.offer(1, 30, 0, 29, 1), TollLedger.KILLED);
        done("a part, kind 1", market, 1, x -> x.offer(1, 500, 0, 500, 1));
        done("the least part, kind 1", market, 1, x -> x.offer(1, 1, 0, 1, 1));
        claimed("no place", full, 1, x -> x.offer(1, 30, 0, 29, 0), TollLedger.RESERVE);
        claimed("killed, no place", full, 1, x -> x.offer(1, 30, 0, 29, 1), TollLedger.KILLED);
        claimed("killed, no place", full, 1, x -> x.offer(1, 31, 0, 31, 2), TollLedger.KILLED);
        done("no place, but taken", full, 1, x -> x.offer(1, 30, 0, 30, 0));
        done("no place, but a part taken", full, 1, x -> x.offer(1, 31, 0, 31, 0));
        claimed("reserve", ClaimTest::oneCoinTooFew, 1, x -> x.offer(1, 5, 0, 5, 0),
                TollLedger.RESERVE);
        done("reserve just reached", ClaimTest::justEnough, 1, x -> x.offer(1, 5, 0, 5, 0));
    }

    /** As market(), but 2 has paid away what it offers. */
    private static Bench emptyMarket() {
        Bench bench = market();
        bench.ledger.spend(1, 1000, false);
        CHECKS.same("pay", bench.as(2).pay(0, 1, 50), 0);
        return bench;
    }

    private static void offerClaimsLeaveUnfundedOffers() {
        Scene empty = ClaimTest::emptyMarket;
        claimed("kind 1", empty, 1, x -> x.offer(1, 30, 0, 30, 1), TollLedger.KILLED);
        claimed("kind 2", empty, 1, x -> x.offer(1, 30, 0, 30, 2), TollLedger.KILLED);
        Scene poor = () -> {
            Bench bench = emptyMarket();
            CHECKS.same("send", bench.as(0).send(3, 129), 0);
            return bench;
        };
        claimed("reserve", poor, 3, x -> x.offer(1, 30, 0, 30, 0), TollLedger.RESERVE);
        Scene payer = () -> {
            Bench bench = emptyMarket();
            bench.ledger.spend(0, 1000, true);
            return bench;
        };
        claimed("pay", payer, 1, x -> x.pay(0, 1, 1), TollLedger.DRY);
        Bench bench = emptyMarket();
        CHECKS.same("kind 0", bench.as(1).offer(1, 30, 0, 30, 0), 0);
        CHECKS.same("gone when it is done", bench.ledger.offerOf(1, 0), -1);
    }

    private static void cancelClaims() {
        Scene market = ClaimTest::market;
        claimed("another's", market, 1, x -> x.cancel(1), TollLedger.NONE);
        claimed("not yet", market, 2, x -> x.cancel(2), TollLedger.NONE);
        done("its own", market, 2, x -> x.cancel(1));
        Scene gone = () -> {
            Bench bench = market();
            CHECKS.same("cancel", bench.as(2).cancel(1), 0);
            return bench;
        };
        claimed("cancelled", gone, 2, x -> x.cancel(1), TollLedger.NONE);
        Scene taken = () -> {
            Bench bench = market();
            CHECKS.same("offer", bench.as(1).offer(1, 30, 0, 30, 2), 0);
            return bench;
        };
        claimed("taken", taken, 2, x -> x.cancel(1), TollLedger.NONE);
    }

    private static void depositClaims() {
        Scene small = ClaimTest::smallPurse;
        claimed("nobody", small, 1, x -> x.deposit(3, 5, 0, 9), TollLedger.NO_OTHER);
        claimed("nobody, short", small, 1, x -> x.deposit(3, 999, 0, 9), TollLedger.NO_OTHER);
        done("130 of 250 with 120", small, 1, x -> x.deposit(2, 130, 0, 9));
        claimed("131 of 250 with 120", small, 1, x -> x.deposit(2, 131, 0, 9), TollLedger.SHORT);
        Scene six = () -> {
            Bench bench = smallPurse();
            for (int i = 0; i < 6; i++) {
                CHECKS.same("deposit", bench.as(2).deposit(1, 5, 3, 9), 0);
            }
            return bench;
        };
        claimed("a seventh", six, 1, x -> x.deposit(2, 5, 0, 9), TollLedger.RESERVE);
        claimed("a seventh, short", six, 1, x -> x.deposit(2, 999, 0, 9), TollLedger.RESERVE);
        claimed("a seventh, nobody", six, 1, x -> x.deposit(3, 999, 0, 9), TollLedger.NO_OTHER);
    }

    private static void settleClaims() {
        Scene scene = () -> {
            Bench bench = smallPurse();
            CHECKS.same("deposit", bench.as(2).deposit(1, 5, 3, 9), 0);
            bench.ledger.tick(2);
            return bench;
        };
        claimed("not the time", scene, 1, x -> x.settle(1), TollLedger.TIME);
        claimed("no such deposit", scene, 1, x -> x.settle(2), TollLedger.NONE);
        Scene settled = () -> {
            Bench bench = scene.set();
            bench.ledger.tick(1);
            CHECKS.same("settle", bench.as(1).settle(1), 0);
            return bench;
        };
        claimed("settled", settled, 1, x -> x.settle(1), TollLedger.NONE);
    }

    private static void claimsUseNoId() {
        Bench bench = new Bench(CHECKS).settlers(1, 5000);
        TollLedger x = bench.ledger;
        CHECKS.same("short", bench.as(1).offer(0, 5, 1, 5, 0), TollLedger.SHORT);
        CHECKS.same("killed", bench.as(1).offer(1, 5, 0, 5, 1), TollLedger.KILLED);
        CHECKS.same("bad", bench.as(1).offer(1, 5, 0, 5, 3), TollLedger.BAD);
        CHECKS.same("offer", bench.as(1).offer(1, 5, 0, 5, 0), 0);
        CHECKS.same("first id", x.offerOf(1, 2), 1);
        CHECKS.same("short", bench.as(1).deposit(0, 9999, 0, 5), TollLedger.SHORT);
        CHECKS.same("nobody", bench.as(1).deposit(2, 5, 0, 5), TollLedger.NO_OTHER);
        CHECKS.same("bad", bench.as(1).deposit(0, 5, 5, 5), TollLedger.BAD);
        CHECKS.same("deposit", bench.as(1).deposit(0, 6, 0, 5), 0);
        CHECKS.same("first id", x.depositOf(1), 6);
    }
}
