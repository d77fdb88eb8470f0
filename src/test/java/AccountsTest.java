/** Promises 1 to 5 and 30: a new object, account, of, limits, days, meet. */
public final class AccountsTest {
    private static final Due DUE = new Due("AccountsTest");
    private static final long LEAST = Long.MIN_VALUE, MOST = Long.MAX_VALUE;

    public static void main(String[] args) {
        newObject();
        account();
        of();
        limits();
        limitsHoldWhenPosting();
        days();
        meet();
        DUE.end();
    }

    private static void newObject() {
        DoubleLedger x = new DoubleLedger();
        int[] told = {1, 0, -5, 0, 0, 0, 0, 0, 0};
        for (int what = 0; what < told.length; what++) {
            DUE.is("1: told(" + what + ")", x.told(what), told[what]);
        }
        DUE.is("1: of(0, 1)", x.of(0, 1), 0);
        DUE.is("1: of(1, 1)", x.of(1, 1), -1);
        DUE.is("1: get(0, 0)", x.get(0, 0), DoubleLedger.NO);
        DUE.is("1: undo()", x.undo(), -3);
        DUE.is("1: a second object is its own", x.account(0, 0, 0), 1);
        DUE.is("1: a second object is its own", new DoubleLedger().told(0), 1);
    }

    private static void account() {
        DoubleLedger x = new DoubleLedger();
        DUE.is("2: account(0, 3, 3)", x.account(0, 3, 3), 1);
        DUE.is("2: account(1, 0, 0)", x.account(1, 0, 0), 2);
        int[][] wrong = {
            {3, 0, 0, -1}, {-1, 0, 0, -1}, {Integer.MAX_VALUE, 0, 0, -1}, {Integer.MIN_VALUE, 9, 9, -1},
            {0, 4, 0, -2}, {0, -1, 0, -2}, {0, 0, 4, -2}, {0, 0, -1, -2}, {3, 4, 4, -1},
        };
        for (int[] w : wrong) {
            DUE.is("2: wrong account", x.account(w[0], w[1], w[2]), w[3]);
        }
        for (int number = 3; number < 30; number++) {
            DUE.is("2: account " + number, x.account(number - 1, number % 4, number % 4), number);
        }
        DUE.is("2: the 31st", x.account(0, 0, 0), -4);
        DUE.is("2: the 31st, no parent", x.account(30, 0, 0), -1);
        DUE.is("2: the 31st, no currency", x.account(0, 4, 0), -2);
        DUE.is("2: accounts", x.told(0), 30);
        DUE.is("2: of(29, 5)", x.of(29, 5), 29);
        DUE.is("2: of(0, 4)", x.of(0, 4), 30);
    }

    private static void of() {
        DoubleLedger x = Due.small();
        x.account(3, 2, 1);
        int[][] due = {
            {-5, 0, -5, 3, 6, 0, 0}, {0, 0, 0, 1, 3, 1, 3}, {0, 0, 2, 0, 1, 1, 1},
            {1, 1, 0, 1, 2, 2, 1}, {0, 1, 3, 0, 1, 1, 1}, {3, 2, 1, 0, 1, 3, 0},
        };
        Due.post(x, 1, 5, 1, 6, 2, -11);
        Due.post(x, 3, 4, 4, -4);
        Due.post(x, 1, 0);
        x.posting(1, 9);
        x.cancel();
        Due.post(x, 1, 7, 0, -7);
        due[0][6] = 1;
        for (int account = 0; account < 6; account++) {
            for (int what = 0; what < 7; what++) {
                DUE.is("3: of(" + account + ", " + what + ")", x.of(account, what), due[account][what]);
            }
            DUE.is("3: of what -1", x.of(account, -1), -1);
            DUE.is("3: of what 7", x.of(account, 7), -1);
        }
        DUE.is("3: of(6, 0)", x.of(6, 0), -1);
        DUE.is("3: of(-1, 0)", x.of(-1, 0), -1);
    }

    private static void limits() {
        DoubleLedger x = Due.small();
        Due.post(x, 1, 50, 2, -50);
        DUE.is("4: narrow", x.limits(1, 50, 50), 1);
        DUE.is("4: floor too high", x.limits(1, 51, 60), -3);
        DUE.is("4: ceiling too low", x.limits(1, 40, 49), -3);
        DUE.is("4: crossed", x.limits(1, 51, 50), -2);
        DUE.is("4: crossed and no account", x.limits(5, 51, 50), -1);
        DUE.is("4: no account", x.limits(-1, 0, 0), -1);
        DUE.is("4: none", x.limits(1, LEAST, MOST), 1);
        DUE.is("4: floor MAX", x.limits(1, MOST, MOST), -3);
        DUE.is("4: ceiling MIN", x.limits(1, LEAST, LEAST), -3);
        DUE.is("4: crossed far", x.limits(1, MOST, LEAST), -2);
        DUE.is("4: the ROOT", x.limits(0, 0, 0), 1);
        DUE.is("4: the ROOT holds it", Due.post(x, 0, 1, 1, -1), -14);
    }

    private static void limitsHoldWhenPosting() {
        DoubleLedger x = Due.small();
        x.limits(1, -10, 20);
        DUE.is("4: to the ceiling", Due.post(x, 1, 20, 2, -20), 0);
        DUE.is("4: over the ceiling", Due.post(x, 1, 1, 2, -1), -14);
        x.cancel();
        DUE.is("4: over and back in one", Due.post(x, 1, 5, 1, -6, 2, 1), 1);
        DUE.is("4: to the floor", Due.post(x, 1, -29, 2, 29), 2);
        DUE.is("4: below the floor", Due.post(x, 1, -1, 2, 1), -14);
        x.cancel();
        DUE.is("4: refused limits left the old", x.limits(1, -9, 20), -3);
        DUE.is("4: still -10", Due.post(x, 1, -1, 2, 1), -14);
        DUE.is("4: taken away", x.limits(1, LEAST, MOST), 1);
        DUE.is("4: now it goes", x.post(), 3);
    }

    private static void days() {
        DoubleLedger x = new DoubleLedger();
        int[] wrong = {0, -1, 101, Integer.MAX_VALUE, Integer.MIN_VALUE};
        for (int n : wrong) {
            DUE.is("5: days(" + n + ")", x.days(n), -2);
        }
        DUE.is("5: days(1)", x.days(1), 1);
        for (int i = 1; i < 10; i++) {
            DUE.is("5: days(100)", x.days(100), 1 + 100 * i);
        }
        DUE.is("5: days(99)", x.days(99), -2);
        DUE.is("5: days(98)", x.days(98), 999);
        DUE.is("5: days(1)", x.days(1), -2);
        DUE.is("5: DAY", x.told(3), 999);
    }

    private static void meet() {
        DoubleLedger x = new DoubleLedger();
        int[] parents = {0, 0, 1, 1, 2, 3, 4};
        for (int parent : parents) {
            x.account(parent, 0, 0);
        }
        int[][] due = {
            {0, 0, 0}, {3, 4, 1}, {6, 7, 1}, {6, 3, 3}, {3, 6, 3}, {5, 6, 0}, {2, 5, 2}, {7, 7, 7}, {1, 2, 0}, {7, 1, 1},
            {8, 0, -1}, {0, 8, -1}, {-1, 0, -1}, {0, -1, -1},
        };
        for (int[] d : due) {
            DUE.is("30: meet(" + d[0] + ", " + d[1] + ")", x.meet(d[0], d[1]), d[2]);
        }
    }
}
