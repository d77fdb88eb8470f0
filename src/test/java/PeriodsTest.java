/** Promises 16 to 18, 27 and 28: close, seal, audit, budget, left. */
public final class PeriodsTest {
    private static final Due DUE = new Due("PeriodsTest");
    private static final long NO = DoubleLedger.NO;

    public static void main(String[] args) {
        close();
        closeToTheEnd();
        seal();
        sealGoesRound();
        budget();
        left();
        leftGoesRound();
        DUE.end();
    }

    private static void close() {
        DoubleLedger x = Due.small();
        int[] none = {-1, 10, Integer.MAX_VALUE, Integer.MIN_VALUE};
        for (int period : none) {
            DUE.is("16: close(" + period + ")", x.close(period), -1);
        }
        DUE.is("16: DAY is in it", x.close(0), -3);
        x.days(99);
        DUE.is("16: DAY is its last", x.close(0), -3);
        x.days(1);
        DUE.is("16: one ahead is not", x.close(1), -3);
        DUE.is("16: DAY is behind it", x.close(0), 1);
        DUE.is("16: it is", x.close(0), -3);
        DUE.is("16: DAY is in the next", x.close(1), -3);
        Due.days(x, 200);
        DUE.is("16: one ahead is not", x.close(2), -3);
        DUE.is("16: close(1)", x.close(1), 2);
        DUE.is("16: close(2)", x.close(2), 3);
        DUE.is("36: told(4)", x.told(4), 3);
        DUE.is("16: posting goes on", Due.post(x, 1, 1, 2, -1), 0);
    }

    private static void closeToTheEnd() {
        DoubleLedger x = Due.small();
        Due.days(x, 999);
        for (int period = 0; period < 9; period++) {
            DUE.is("16: close(" + period + ")", x.close(period), period + 1);
            DUE.is("17: seal(" + period + ")", x.seal(period), 17);
        }
        DUE.is("16: the last", x.close(9), -3);
        DUE.is("17: the last", x.seal(9), NO);
        DUE.is("18: audit", x.audit(), -5);
    }

    private static long sealed(long... row) {
        long z = 17;
        for (long number : row) {
            z = 31 * z + number;
        }
        return z;
    }

    private static void seal() {
        DoubleLedger x = Due.small();
        DUE.is("18: none is CLOSED", x.audit(), -5);
        Due.post(x, 1, 500, 2, -499, 2, -1);
        Due.days(x, 99);
        Due.post(x, 3, 7, 4, -7);
        x.reverse(0);
        x.days(1);
        Due.post(x, 1, 1, 0, -1);
        DUE.is("17: not CLOSED", x.seal(0), NO);
        x.close(0);
        Due.days(x, 100);
        x.close(1);
        long first = sealed(1, 500, 2, -499, 2, -1, 3, 7, 4, -7, 1, -500, 2, 499, 2, 1);
        DUE.is("17: seal(0)", x.seal(0), first);
        DUE.is("17: seal(1)", x.seal(1), sealed(1, 1, 0, -1));
        DUE.is("17: not CLOSED", x.seal(2), NO);
        int[] none = {-1, 10, Integer.MIN_VALUE, Integer.MAX_VALUE};
        for (int period : none) {
            DUE.is("17: seal(" + period + ")", x.seal(period), NO);
        }
        Due.post(x, 1, 8, 2, -8);
        x.reverse(1);
        DUE.is("17: later JOURNALS leave it", x.seal(0), first);
        DUE.is("18: audit", x.audit(), -5);
    }

    private static void sealGoesRound() {
        DoubleLedger x = Due.small();
        long[] row = new long[40];
        for (int i = 0; i < 10; i++) {
            Due.post(x, 1, 1000000 - i, 2, i - 1000000);
            row[4 * i] = 1;
            row[4 * i + 1] = 1000000 - i;
            row[4 * i + 2] = 2;
            row[4 * i + 3] = i - 1000000;
        }
        Due.days(x, 100);
        x.close(0);
        DUE.is("17: goes round", x.seal(0), sealed(row));
        DUE.is("18: audit", x.audit(), -5);
    }

    private static void budget() {
        DoubleLedger x = Due.small();
        DUE.is("28: 0 at first", x.left(1, 0), 0);
        DUE.is("27: budget", x.budget(1, 0, 100), 1);
        DUE.is("27: budget anew", x.budget(1, 0, 70), 1);
        DUE.is("27: of another PERIOD", x.budget(1, 9, -5), 1);
        DUE.is("27: of the ROOT", x.budget(0, 0, 3), 1);
        DUE.is("28: left", x.left(1, 0), 70);
        DUE.is("28: left", x.left(1, 9), -5);
        DUE.is("28: left", x.left(1, 1), 0);
        DUE.is("28: left", x.left(2, 0), 0);
        DUE.is("28: left", x.left(0, 0), 3);
        int[][] none = {{5, 0}, {-1, 0}, {0, 10}, {0, -1}};
        for (int[] n : none) {
            DUE.is("27: NONE", x.budget(n[0], n[1], 1), -1);
            DUE.is("28: NO", x.left(n[0], n[1]), NO);
        }
        Due.days(x, 100);
        x.close(0);
        DUE.is("27: CLOSED", x.budget(1, 0, 8), -3);
        DUE.is("27: CLOSED, no account", x.budget(5, 0, 8), -1);
        DUE.is("28: left stays", x.left(1, 0), 70);
        DUE.is("27: the next one isn't", x.budget(1, 1, 8), 1);
    }

    private static void left() {
        DoubleLedger x = Due.small();
        x.account(3, 0, 0);
        x.budget(1, 0, 100);
        x.budget(1, 1, 1000);
        x.budget(3, 0, 10);
        Due.post(x, 1, 30, 5, 20, 2, -50, 3, 4, 4, -4);
        Due.days(x, 99);
        Due.post(x, 5, 1, 2, -1);
        x.days(1);
        Due.post(x, 1, -7, 2, 7);
        DUE.is("28: the BRANCH in its own CURRENCY", x.left(1, 0), 49);
        DUE.is("28: the next PERIOD", x.left(1, 1), 1007);
        DUE.is("28: in currency 1", x.left(3, 0), 6);
        DUE.is("28: without a BUDGET", x.left(2, 0), 51);
        DUE.is("28: the ROOT", x.left(0, 0), 0);
        DUE.is("28: nothing there", x.left(1, 2), 0);
    }

    private static void leftGoesRound() {
        DoubleLedger x = Due.small();
        Due.post(x, 1, 1, 2, -1);
        x.budget(1, 0, Long.MIN_VALUE);
        x.budget(2, 0, Long.MAX_VALUE);
        DUE.is("28: goes round", x.left(1, 0), Long.MAX_VALUE);
        DUE.is("28: goes round", x.left(2, 0), Long.MIN_VALUE);
    }
}
