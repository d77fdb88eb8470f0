/** Promises 19 to 23: rate, rateOf, value, real, gain. */
public final class RatesTest {
    private static final Due DUE = new Due("RatesTest");
    private static final long NO = DoubleLedger.NO;

    public static void main(String[] args) {
        rate();
        rateInClosedPeriod();
        rateOf();
        value();
        valueAtItsGreatest();
        real();
        realOfMany();
        gain();
        DUE.end();
    }

    private static void rate() {
        DoubleLedger x = new DoubleLedger();
        int[] none = {0, 4, -1, Integer.MAX_VALUE};
        for (int currency : none) {
            DUE.is("19: rate(" + currency + ")", x.rate(currency, -1, 0, 0), -1);
        }
        int[][] bad = {{-1, 1, 1}, {1000, 1, 1}, {0, 0, 1}, {0, 1000, 1}, {0, 1, 0}, {0, 1, 1000}, {0, -1, 1}, {0, 1, -1}};
        for (int[] b : bad) {
            DUE.is("19: BAD", x.rate(1, b[0], b[1], b[2]), -2);
        }
        DUE.is("19: rate", x.rate(1, 999, 999, 1), 1);
        DUE.is("19: another DAY", x.rate(1, 0, 1, 999), 2);
        DUE.is("19: another CURRENCY", x.rate(3, 0, 1, 2), 1);
        DUE.is("19: told anew", x.rate(1, 999, 5, 1), 2);
        DUE.is("20: told anew", x.rateOf(1, 999, 0), 5);
        for (int i = 3; i <= 20; i++) {
            DUE.is("19: rate " + i, x.rate(1, 10 * i, i, 1), i);
        }
        DUE.is("19: FULL", x.rate(1, 5, 1, 1), -4);
        DUE.is("19: FULL, BAD first", x.rate(1, 5, 0, 1), -2);
        DUE.is("19: FULL, told anew", x.rate(1, 30, 8, 9), 20);
        DUE.is("20: told anew", x.rateOf(1, 39, 1), 9);
        DUE.is("19: another CURRENCY isn't", x.rate(3, 5, 1, 1), 2);
    }

    private static void rateInClosedPeriod() {
        DoubleLedger x = new DoubleLedger();
        x.rate(1, 99, 2, 3);
        Due.days(x, 100);
        x.close(0);
        DUE.is("19: CLOSED", x.rate(1, 99, 1, 1), -3);
        DUE.is("19: CLOSED", x.rate(1, 0, 1, 1), -3);
        DUE.is("19: CLOSED, BAD first", x.rate(1, 0, 1, 0), -2);
        DUE.is("19: not CLOSED", x.rate(1, 100, 1, 1), 2);
        DUE.is("20: as it was", x.rateOf(1, 99, 1), 3);
        for (int i = 3; i <= 20; i++) {
            x.rate(1, 100 + i, 1, 1);
        }
        DUE.is("19: CLOSED ahead of FULL", x.rate(1, 50, 1, 1), -3);
        DUE.is("19: FULL", x.rate(1, 150, 1, 1), -4);
    }

    private static void rateOf() {
        DoubleLedger x = new DoubleLedger();
        x.rate(2, 50, 10, 4);
        x.rate(2, 10, 6, 9);
        x.rate(2, 900, 999, 999);
        int[][] due = {
            {2, 0, 1, 1}, {2, 9, 1, 1}, {2, 10, 2, 3}, {2, 49, 2, 3}, {2, 50, 5, 2}, {2, 899, 5, 2}, {2, 900, 1, 1},
            {0, 50, 1, 1}, {1, 50, 1, 1}, {3, 999, 1, 1},
        };
        for (int[] d : due) {
            DUE.is("20: above", x.rateOf(d[0], d[1], 0), d[2]);
            DUE.is("20: below", x.rateOf(d[0], d[1], 1), d[3]);
        }
        DUE.is("20: currency", x.rateOf(4, 0, 0), -1);
        DUE.is("20: currency", x.rateOf(-1, 1000, 0), -1);
        DUE.is("20: part", x.rateOf(0, 1000, 2), -1);
        DUE.is("20: part", x.rateOf(0, 0, -1), -1);
        DUE.is("20: day", x.rateOf(0, 1000, 0), -2);
        DUE.is("20: day", x.rateOf(2, -1, 1), -2);
    }

    /** Accounts 1, 2, 3 and 4 in currencies 0, 1, 2 and 3 below 1, and four outside to balance them. */
    private static DoubleLedger many() {
        DoubleLedger x = new DoubleLedger();
        x.account(0, 0, 0);
        for (int currency = 1; currency < 4; currency++) {
            x.account(1, currency, 0);
        }
        for (int currency = 0; currency < 4; currency++) {
            x.account(0, currency, 2);
        }
        return x;
    }

    private static void value() {
        DoubleLedger x = many();
        Due.post(x, 1, 5, 5, -5, 2, 10, 6, -10);
        x.days(10);
        Due.post(x, 3, -3, 7, 3, 4, 1, 8, -1);
        x.rate(1, 5, 2, 3);
        x.rate(2, 10, 1, 2);
        x.rate(3, 11, 1, 7);
        long[][] due = {
            {1, 0, 15, 1}, {1, 5, 35, 3}, {1, 10, 67, 6}, {1, 11, 433, 42}, {2, 5, 20, 3}, {3, 10, -3, 2}, {3, 9, 0, 1},
            {0, 11, 0, 1}, {5, 0, -5, 1}, {8, 999, -1, 7}, {1, 999, 433, 42},
        };
        for (long[] d : due) {
            DUE.is("21: above, day " + d[1], x.value((int) d[0], (int) d[1], 0), d[2]);
            DUE.is("21: below, day " + d[1], x.value((int) d[0], (int) d[1], 1), d[3]);
        }
        int[][] wrong = {{9, 0, 0}, {-1, 0, 0}, {0, 1000, 0}, {0, -1, 0}, {0, 0, 2}, {0, 0, -1}};
        for (int[] w : wrong) {
            DUE.is("21: NO", x.value(w[0], w[1], w[2]), NO);
        }
    }

    private static void valueAtItsGreatest() {
        DoubleLedger x = many();
        long million = 1000000;
        for (int i = 0; i < 30; i++) {
            x.begin();
            for (int k = 0; k < 5; k++) {
                x.posting(2 + (i % 3), million);
                x.posting(6 + (i % 3), -million);
            }
            x.post();
        }
        x.rate(1, 0, 998, 997);
        x.rate(2, 0, 997, 991);
        x.rate(3, 0, 999, 983);
        long held = 50 * million;
        long below = 997L * 991 * 983;
        long above = held * (998L * 991 * 983 + 997L * 997 * 983 + 999L * 997 * 991);
        DUE.is("21: great above", x.value(1, 0, 0), above);
        DUE.is("21: great below", x.value(1, 0, 1), below);
        double real = (double) above / (double) below;
        long bits = Double.doubleToLongBits(real);
        DUE.is("22: great, higher", x.real(1, 0, 0), (int) (bits >> 32));
        DUE.is("22: great, lower", x.real(1, 0, 1), (int) bits);
        x.rate(1, 0, 999, 1);
        DUE.is("22: cut, too great for an int", x.real(2, 0, 3), Integer.MAX_VALUE);
        DUE.is("22: cut, too little for an int", x.real(6, 0, 3), Integer.MIN_VALUE);
        DUE.is("21: greatest", x.value(2, 0, 0), held * 999);
    }

    private static void real() {
        DoubleLedger x = many();
        Due.post(x, 2, 10, 6, -10);
        for (int what = 0; what < 4; what++) {
            DUE.is("22: 0.0", x.real(0, 0, what), 0);
            DUE.is("22: 0.0", x.real(3, 0, what), 0);
        }
        DUE.is("22: 10.0, higher", x.real(2, 0, 0), 0x40240000);
        DUE.is("22: 10.0, lower", x.real(2, 0, 1), 0);
        DUE.is("22: 10.0, float", x.real(2, 0, 2), 0x41200000);
        DUE.is("22: 10.0, cut", x.real(2, 0, 3), 10);
        x.rate(1, 0, 1, 3);
        DUE.is("22: 10/3, higher", x.real(2, 0, 0), 0x400AAAAA);
        DUE.is("22: 10/3, lower", x.real(2, 0, 1), 0xAAAAAAAB);
        DUE.is("22: 10/3, float", x.real(2, 0, 2), 0x40555555);
        DUE.is("22: 10/3, cut", x.real(2, 0, 3), 3);
        DUE.is("22: -10/3, higher", x.real(6, 0, 0), 0xC00AAAAA);
        DUE.is("22: -10/3, lower", x.real(6, 0, 1), 0xAAAAAAAB);
        DUE.is("22: -10/3, float", x.real(6, 0, 2), 0xC0555555);
        DUE.is("22: -10/3, cut", x.real(6, 0, 3), -3);
        x.rate(1, 0, 1, 20);
        DUE.is("22: 0.5, higher", x.real(2, 0, 0), 0x3FE00000);
        DUE.is("22: -0.5, cut", x.real(6, 0, 3), 0);
        x.rate(1, 0, 999, 7);
        int[][] wrong = {{9, 0, 0}, {-1, 0, 3}, {2, 1000, 0}, {2, -1, 0}, {2, 0, 4}, {2, 0, -1}};
        for (int[] w : wrong) {
            DUE.is("22: wrong", x.real(w[0], w[1], w[2]), 0);
        }
    }

    /** The rates walk over many fractions, so that the rounding of both forms is looked at. */
    private static void realOfMany() {
        for (int i = 1; i <= 40; i++) {
            DoubleLedger x = many();
            int amount = (i * 7919 + i * i * 31) % 1000000 + 1;
            Due.post(x, 2, amount, 6, -amount, 3, -i, 7, i, 4, 1, 8, -1);
            x.rate(1, 0, i * 23 % 999 + 1, i * 577 % 999 + 1);
            x.rate(2, 0, i * 91 % 999 + 1, i * 283 % 999 + 1);
            x.rate(3, 0, 1, 999 - i);
            for (int account = 0; account < 9; account++) {
                double real = (double) x.value(account, 0, 0) / (double) x.value(account, 0, 1);
                long bits = Double.doubleToLongBits(real);
                DUE.is("22: higher", x.real(account, 0, 0), (int) (bits >> 32));
                DUE.is("22: lower", x.real(account, 0, 1), (int) bits);
                DUE.is("22: float", x.real(account, 0, 2), Float.floatToIntBits((float) real));
                DUE.is("22: cut", x.real(account, 0, 3), (int) real);
            }
        }
    }

    private static void gain() {
        DoubleLedger x = many();
        Due.post(x, 2, 10, 6, -10, 1, 5, 5, -5);
        x.days(10);
        Due.post(x, 2, 2, 6, -2);
        x.rate(1, 5, 2, 3);
        x.rate(1, 10, 5, 2);
        x.rate(1, 20, 4, 6);
        long[][] due = {
            {2, 1, 0, 0, 0, 1}, {2, 1, 0, 5, -10, 3}, {2, 1, 5, 10, 22, 1}, {2, 1, 0, 10, 18, 1}, {2, 1, 10, 20, -22, 1},
            {1, 1, 5, 10, 22, 1}, {6, 1, 5, 10, -22, 1}, {0, 1, 5, 10, 0, 1}, {1, 0, 0, 999, 0, 1}, {2, 1, 5, 20, 0, 1},
            {2, 2, 0, 999, 0, 1}, {2, 1, 0, 999, -4, 1}, {2, 1, 7, 9, 0, 1},
        };
        for (long[] d : due) {
            String call = "23: gain(" + d[0] + ", " + d[1] + ", " + d[2] + ", " + d[3] + ")";
            DUE.is(call, x.gain((int) d[0], (int) d[1], (int) d[2], (int) d[3], 0), d[4]);
            DUE.is(call, x.gain((int) d[0], (int) d[1], (int) d[2], (int) d[3], 1), d[5]);
        }
        int[][] wrong = {
            {9, 1, 0, 0, 0}, {-1, 1, 0, 0, 0}, {2, 4, 0, 0, 0}, {2, -1, 0, 0, 0}, {2, 1, -1, 0, 0}, {2, 1, 0, 1000, 0},
            {2, 1, 1000, 1000, 0}, {2, 1, -1, -1, 0}, {2, 1, 6, 5, 0}, {2, 1, 0, 0, 2}, {2, 1, 0, 0, -1},
        };
        for (int[] w : wrong) {
            DUE.is("23: NO", x.gain(w[0], w[1], w[2], w[3], w[4]), NO);
        }
    }
}
