/** Promises 24 to 26, 29 and 36: line, trial, sorts, extreme, told. */
public final class StatementsTest {
    private static final Due DUE = new Due("StatementsTest");
    private static final long NO = DoubleLedger.NO;

    public static void main(String[] args) {
        line();
        trial();
        sorts();
        extreme();
        told();
        DUE.end();
    }

    private static void line() {
        DoubleLedger x = Due.small();
        Due.post(x, 1, 5, 2, -11, 1, 6);
        x.days(20);
        Due.post(x, 3, 1, 4, -1);
        x.days(1);
        x.reverse(0);
        long[][] due = {{0, 0, 5, 5}, {0, 0, 6, 11}, {21, 2, -5, 6}, {21, 2, -6, 0}};
        for (int i = 0; i < 4; i++) {
            for (int what = 0; what < 4; what++) {
                DUE.is("24: line(1, " + i + ", " + what + ")", x.line(1, i, what), due[i][what]);
                DUE.is("24: line(1, " + (i - 4) + ", " + what + ")", x.line(1, i - 4, what), due[i][what]);
            }
        }
        DUE.is("24: line(4, -1, 1)", x.line(4, -1, 1), 1);
        int[][] wrong = {
            {1, 4, 0}, {1, -5, 0}, {1, Integer.MAX_VALUE, 0}, {1, Integer.MIN_VALUE, 0}, {0, 0, 0}, {0, -1, 0},
            {5, 0, 0}, {-1, 0, 0}, {1, 0, 4}, {1, 0, -1},
        };
        for (int[] w : wrong) {
            DUE.is("24: NO", x.line(w[0], w[1], w[2]), NO);
        }
        Due.open(x, 0, 1, 0, -1);
        DUE.is("24: OPEN ones don't count", x.line(0, 0, 0), NO);
    }

    private static void trial() {
        DoubleLedger x = Due.small();
        Due.post(x, 1, 10, 2, -10, 3, 4, 4, -4);
        x.days(1);
        Due.post(x, 1, -15, 0, 8, 2, 7);
        long[][] due = {
            {0, 0, 10, -10}, {0, 1, 8, -8}, {0, 999, 8, -8}, {1, 0, 4, -4}, {2, 0, 0, 0}, {3, 999, 0, 0},
        };
        for (long[] d : due) {
            DUE.is("25: above", x.trial((int) d[0], (int) d[1], 0), d[2]);
            DUE.is("25: below", x.trial((int) d[0], (int) d[1], 1), d[3]);
        }
        int[][] wrong = {{4, 0, 0}, {-1, 0, 0}, {0, 1000, 0}, {0, -1, 0}, {0, 0, 2}, {0, 0, -1}};
        for (int[] w : wrong) {
            DUE.is("25: NO", x.trial(w[0], w[1], w[2]), NO);
        }
    }

    private static void sorts() {
        DoubleLedger x = Due.small();
        x.account(2, 0, 0);
        Due.post(x, 1, 10, 5, 3, 2, -6, 0, -7);
        x.days(50);
        Due.post(x, 3, 9, 4, -9);
        long[][] due = {{0, 0, 13}, {2, 0, -6}, {1, 0, 0}, {3, 0, 0}, {0, 1, 9}, {3, 1, -9}, {0, 2, 0}};
        for (long[] d : due) {
            DUE.is("26: sorts(" + d[0] + ", " + d[1] + ")", x.sorts((int) d[0], (int) d[1]), d[2]);
        }
        int[][] wrong = {{4, 0}, {-1, 0}, {-5, 0}, {0, 4}, {0, -1}};
        for (int[] w : wrong) {
            DUE.is("26: NO", x.sorts(w[0], w[1]), NO);
        }
    }

    private static void extreme() {
        DoubleLedger x = Due.small();
        DUE.is("29: of several the least", x.extreme(0, 0), 0);
        DUE.is("29: of several the least", x.extreme(0, 1), 0);
        DUE.is("29: of several the least", x.extreme(1, 0), 3);
        DUE.is("29: there is none", x.extreme(2, 0), -5);
        DUE.is("29: there is none", x.extreme(3, 1), -5);
        Due.post(x, 2, 8, 1, -8);
        Due.post(x, 3, -2, 4, 2);
        DUE.is("29: greatest", x.extreme(0, 0), 2);
        DUE.is("29: least", x.extreme(0, 1), 1);
        DUE.is("29: greatest", x.extreme(1, 0), 4);
        DUE.is("29: least", x.extreme(1, 1), 3);
        x.account(0, 3, 0);
        x.account(0, 3, 0);
        Due.post(x, 5, -1, 6, 1);
        x.days(1);
        Due.post(x, 5, 3, 6, -3);
        DUE.is("29: by now", x.extreme(3, 0), 5);
        Due.post(x, 1, 17, 2, -15, 0, -2);
        DUE.is("29: greatest, a lesser one behind it", x.extreme(0, 0), 1);
        Due.post(x, 1, -29, 2, 9, 0, 20);
        DUE.is("29: least, a greater one behind it", x.extreme(0, 1), 1);
        int[][] wrong = {{4, 0}, {-1, 0}, {0, 2}, {0, -1}};
        for (int[] w : wrong) {
            DUE.is("29: NONE", x.extreme(w[0], w[1]), -1);
        }
    }

    private static void told() {
        DoubleLedger x = Due.small();
        Due.post(x, 1, 1, 2, -1);
        Due.post(x, 1, 2, 2, -2);
        x.reverse(0);
        Due.days(x, 250);
        x.close(0);
        x.close(1);
        x.spell(1);
        Due.feed(x, "12345");
        Due.post(x, 1, 1, 2, -1, 1, 4);
        int[] due = {5, 3, 3, 250, 2, 5, 8, 1, 1};
        for (int what = 0; what < due.length; what++) {
            DUE.is("36: told(" + what + ")", x.told(what), due[what]);
        }
        DUE.is("36: told(9)", x.told(9), -1);
        DUE.is("36: told(-1)", x.told(-1), -1);
        x.cancel();
        DUE.is("36: told(2)", x.told(2), -5);
        x.begin();
        DUE.is("36: told(2)", x.told(2), 0);
    }
}
