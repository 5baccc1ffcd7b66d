/** The eight transactions: with numbers as the document says, and with one that is not so. */
enum Transaction {
    SEND {
        @Override
        int good(TollLedger x, int b) {
            return x.send(b, 100);
        }

        @Override
        int bad(TollLedger x, int b) {
            return x.send(b, 0);
        }
    },
    TRUST {
        @Override
        int good(TollLedger x, int b) {
            return x.trust(b, 1, 5, true);
        }

        @Override
        int bad(TollLedger x, int b) {
            return x.trust(b, 3, 5, true);
        }
    },
    RATE {
        @Override
        int good(TollLedger x, int b) {
            return x.rate(5);
        }

        @Override
        int bad(TollLedger x, int b) {
            return x.rate(201);
        }
    },
    PAY {
        @Override
        int good(TollLedger x, int b) {
            return x.pay(b, 1 + b, 5);
        }

        @Override
        int bad(TollLedger x, int b) {
            return x.pay(b, 1 + b, 401);
        }
    },
    OFFER {
        @Override
        int good(TollLedger x, int b) {
            return x.offer(1 + b, 5, 0, 5, 0);
        }

        @Override
        int bad(TollLedger x, int b) {
            return x.offer(1 + b, 5, 0, 5, 3);
        }
    },
    CANCEL {
        @Override
        int good(TollLedger x, int b) {
            return x.cancel(1);
        }

        @Override
        int bad(TollLedger x, int b) {
            return x.cancel(0);
        }
    },
    DEPOSIT {
        @Override
        int good(TollLedger x, int b) {
            return x.deposit(b, 5, 0, 5);
        }

        @Override
        int bad(TollLedger x, int b) {
            return x.deposit(b, 5, 5, 5);
        }
    },
    SETTLE {
        @Override
        int good(TollLedger x, int b) {
            return x.settle(1);
        }

        @Override
        int bad(TollLedger x, int b) {
            return x.settle(0);
        }
    };

    /** By an account other than b. */
    abstract int good(TollLedger x, int b);

    /** As good(), but for one number. */
    abstract int bad(TollLedger x, int b);
}
