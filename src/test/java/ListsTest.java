/** Promises 37 to 41: list, set, get, lay, judge. */
public final class ListsTest {
    private static final Due DUE = new Due("ListsTest");
    private static final long NO = DoubleLedger.NO;
    private static final int MOST = Integer.MAX_VALUE, LEAST = Integer.MIN_VALUE;

    public static void main(String[] args) {
        list();
        setAndGet();
        lay();
        judge();
        DUE.end();
    }

    private static void list() {
        DoubleLedger x = new DoubleLedger();
        int[] none = {4, -1, MOST, LEAST};
        for (int list : none) {
            DUE.is("37: list(" + list + ")", x.list(list, 41), -1);
        }
        DUE.is("37: n", x.list(0, 41), -2);
        DUE.is("37: n", x.list(0, MOST), -2);
        DUE.is("37: n", x.list(0, -1), -14);
        DUE.is("37: n", x.list(0, LEAST), -14);
        DUE.is("38: still nothing", x.set(0, 0, 1), -11);
        DUE.is("37: list(0, 40)", x.list(0, 40), 1);
        DUE.is("37: list(3, 0)", x.list(3, 0), 1);
        x.set(0, 39, 5);
        x.set(0, 0, 6);
        DUE.is("37: refused", x.list(0, 41), -2);
        DUE.is("37: refused leaves it", x.get(0, 39), 5);
        DUE.is("37: anew", x.list(0, 40), 1);
        DUE.is("37: all 0", x.get(0, 39), 0);
        DUE.is("37: all 0", x.get(0, 0), 0);
        x.set(0, 39, 5);
        x.list(0, 3);
        DUE.is("37: shorter", x.get(0, 3), NO);
        DUE.is("37: longer", x.list(0, 40), 1);
        DUE.is("37: all 0", x.get(0, 39), 0);
    }

    private static void setAndGet() {
        DoubleLedger x = new DoubleLedger();
        DUE.is("38: NONE", x.set(4, 0, 0), -1);
        DUE.is("38: NONE", x.set(-1, 0, 0), -1);
        DUE.is("38: NOTHING", x.set(1, -1, 0), -11);
        DUE.is("39: NO", x.get(1, 0), NO);
        x.list(1, 2);
        x.list(2, 2);
        DUE.is("38: set", x.set(1, 0, Long.MAX_VALUE), 1);
        DUE.is("38: set", x.set(1, 1, Long.MIN_VALUE), 1);
        int[] beyond = {2, -1, 40, MOST, LEAST};
        for (int i : beyond) {
            DUE.is("38: BEYOND", x.set(1, i, 7), -13);
            DUE.is("39: NO", x.get(1, i), NO);
        }
        DUE.is("39: get", x.get(1, 0), Long.MAX_VALUE);
        DUE.is("39: get", x.get(1, 1), Long.MIN_VALUE);
        DUE.is("39: another LIST", x.get(2, 0), 0);
        DUE.is("39: NO", x.get(4, 0), NO);
        DUE.is("39: NO", x.get(-1, 0), NO);
    }

    private static void lay() {
        DoubleLedger x = Due.small();
        Due.post(x, 1, 10, 2, -10, 3, 4, 4, -4);
        x.days(3);
        Due.post(x, 1, 1, 0, -1);
        long[] now = {-1, 11, -10, 4, -4};
        DUE.is("40: NONE", x.lay(4, 0), -1);
        DUE.is("40: NONE", x.lay(-1, 0), -1);
        DUE.is("40: NOTHING", x.lay(0, -1), -11);
        x.list(0, 8);
        DUE.is("40: lay(0, 0)", x.lay(0, 0), 5);
        for (int i = 0; i < 8; i++) {
            DUE.is("40: place " + i, x.get(0, i), i < 5 ? now[i] : 0);
        }
        x.list(0, 8);
        DUE.is("40: lay(0, 3)", x.lay(0, 3), 5);
        for (int i = 0; i < 8; i++) {
            DUE.is("40: place " + i, x.get(0, i), i < 3 ? 0 : now[i - 3]);
        }
        x.list(0, 8);
        DUE.is("40: lay(0, 4)", x.lay(0, 4), -13);
        for (int i = 0; i < 8; i++) {
            DUE.is("40: place " + i, x.get(0, i), i < 4 ? 0 : now[i - 4]);
        }
        x.list(0, 8);
        int[] beyond = {8, -1, -5, MOST, MOST - 2, LEAST};
        for (int i : beyond) {
            DUE.is("40: lay(0, " + i + ")", x.lay(0, i), -13);
        }
        for (int i = 0; i < 8; i++) {
            DUE.is("40: place " + i, x.get(0, i), 0);
        }
        x.list(3, 0);
        DUE.is("40: an empty row", x.lay(3, 0), -13);
    }

    private static void judge() {
        DoubleLedger x = Due.small();
        Due.post(x, 1, 10, 2, -10, 3, 4, 4, -4);
        DUE.is("41: NONE", x.judge(4, 0), -1);
        DUE.is("41: NONE", x.judge(-1, 0), -1);
        DUE.is("41: NOTHING", x.judge(2, 0), -11);
        x.list(2, 7);
        DUE.is("41: the first that differs", x.judge(2, 0), 1);
        x.lay(2, 1);
        DUE.is("41: from 1 on", x.judge(2, 1), -5);
        DUE.is("41: from 0 on", x.judge(2, 0), 1);
        DUE.is("41: from 2 on", x.judge(2, 2), 0);
        x.set(2, 5, -5);
        DUE.is("41: the last differs", x.judge(2, 1), 4);
        x.set(2, 5, -4);
        Due.post(x, 1, 1, 0, -1);
        DUE.is("41: by now", x.judge(2, 1), 0);
        x.list(2, 3);
        x.lay(2, 0);
        DUE.is("41: it ends", x.judge(2, 0), 103);
        x.set(2, 2, 0);
        DUE.is("41: it differs ahead of that", x.judge(2, 0), 2);
        x.lay(2, 1);
        DUE.is("41: it ends", x.judge(2, 1), 102);
        int[] none = {3, 4, -1, MOST, MOST - 1, LEAST};
        for (int i : none) {
            DUE.is("41: judge(2, " + i + ")", x.judge(2, i), 100);
        }
        x.list(2, 0);
        DUE.is("41: an empty row", x.judge(2, 0), 100);
    }
}
