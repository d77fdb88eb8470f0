/** Promises 6 to 15: begin, posting, cancel, post, reverse, journal, part, cause, balance, branch. */
public final class JournalsTest {
    private static final Due DUE = new Due("JournalsTest");
    private static final long NO = DoubleLedger.NO;

    public static void main(String[] args) {
        begin();
        posting();
        cancel();
        post();
        postFindsInOrder();
        reverse();
        reverseRefused();
        sixty();
        journalAndPart();
        causesStay();
        balanceAndBranch();
        DUE.end();
    }

    private static void begin() {
        DoubleLedger x = Due.small();
        DUE.is("6: begin", x.begin(), 0);
        DUE.is("6: one is OPEN", x.begin(), -3);
        x.posting(1, 1);
        x.cancel();
        DUE.is("6: begin again", x.begin(), 0);
        DUE.is("6: without POSTINGS", x.told(2), 0);
        x.cancel();
        Due.post(x, 1, 1, 2, -1);
        DUE.is("6: one is POSTED", x.begin(), 1);
    }

    private static void posting() {
        DoubleLedger x = Due.small();
        DUE.is("7: none is OPEN", x.posting(1, 1), -3);
        DUE.is("7: no account first", x.posting(5, 0), -1);
        DUE.is("7: amount second", x.posting(1, 0), -2);
        x.begin();
        DUE.is("7: posting", x.posting(1, 1000000), 1);
        DUE.is("7: posting", x.posting(0, -1000000), 2);
        long[] wrong = {0, 1000001, -1000001, Long.MAX_VALUE, Long.MIN_VALUE, 1L << 32, (1L << 32) + 5};
        for (long amount : wrong) {
            DUE.is("7: amount " + amount, x.posting(1, amount), -2);
        }
        DUE.is("7: no account", x.posting(-1, 1), -1);
        for (int i = 3; i <= 10; i++) {
            DUE.is("7: posting " + i, x.posting(1, i), i);
        }
        DUE.is("7: the 11th", x.posting(1, 1), -4);
        DUE.is("7: the 11th, amount", x.posting(1, 0), -2);
        DUE.is("7: the 11th, account", x.posting(5, 1), -1);
        DUE.is("7: ten", x.told(2), 10);
    }

    private static void cancel() {
        DoubleLedger x = Due.small();
        DUE.is("8: none", x.cancel(), -3);
        Due.open(x, 1, 1, 2, -1, 1, 3);
        DUE.is("8: three", x.cancel(), 3);
        DUE.is("8: none", x.cancel(), -3);
        DUE.is("8: none is OPEN", x.told(2), -5);
        DUE.is("8: none is POSTED", x.told(1), 0);
        DUE.is("8: no balance", x.balance(1, 999), 0);
    }

    private static void post() {
        DoubleLedger x = Due.small();
        DUE.is("9: none", x.post(), -3);
        x.begin();
        DUE.is("9: no POSTINGS", x.post(), -12);
        DUE.isText("9: no POSTINGS", Due.causes(x), "2 0");
        x.posting(1, 7);
        DUE.is("9: one POSTING", x.post(), -12);
        DUE.isText("9: one POSTING", Due.causes(x), "2 1");
        DUE.is("9: it stays OPEN", x.told(2), 1);
        x.posting(4, -7);
        DUE.is("9: two currencies", x.post(), -11);
        DUE.isText("9: the least currency", Due.causes(x), "1 0");
        x.posting(2, -7);
        DUE.is("9: the other currency", x.post(), -11);
        DUE.isText("9: the other currency", Due.causes(x), "1 1");
        x.posting(3, 7);
        DUE.is("9: balanced", x.post(), 0);
        DUE.isText("9: no causes", Due.causes(x), "");
        DUE.is("9: none is OPEN", x.told(2), -5);
        DUE.is("9: posted", x.told(1), 1);
        DUE.is("9: again", x.post(), -3);
        Due.open(x, 1, 1, 2, -1);
        x.days(3);
        DUE.is("9: the next number", x.post(), 1);
        DUE.is("9: the DAY of then", x.journal(1, 0), 3);
    }

    private static void postFindsInOrder() {
        DoubleLedger x = Due.small();
        x.limits(1, 0, 10);
        x.limits(2, -10, 0);
        DUE.is("9: TOO FEW ahead of UNBALANCED", Due.post(x, 1, 11), -12);
        x.posting(2, -12);
        DUE.is("9: UNBALANCED ahead of BEYOND LIMITS", x.post(), -11);
        x.posting(2, 1);
        DUE.is("9: BEYOND LIMITS", x.post(), -14);
        DUE.isText("9: the first POSTING's account", Due.causes(x), "4 1,6 1");
        x.cancel();
        DUE.is("9: the other way round", Due.post(x, 2, -11, 1, 11), -14);
        DUE.isText("9: the first POSTING's account", Due.causes(x), "4 2,5 2");
        x.cancel();
        DUE.is("9: only those with POSTINGS", Due.post(x, 0, 11, 0, -11), 0);
    }

    private static void reverse() {
        DoubleLedger x = Due.small();
        DUE.is("10: not POSTED", x.reverse(0), -1);
        DUE.is("10: below 0", x.reverse(-1), -1);
        Due.post(x, 1, 9, 2, -4, 2, -5);
        x.begin();
        DUE.is("10: one is OPEN", x.reverse(0), -3);
        DUE.is("10: one is OPEN, not POSTED", x.reverse(1), -1);
        x.cancel();
        x.days(7);
        DUE.is("10: reversed", x.reverse(0), 1);
        long[][] parts = {{1, -9}, {2, 4}, {2, 5}};
        for (int i = 0; i < 3; i++) {
            DUE.is("10: account", x.part(1, i, 0), parts[i][0]);
            DUE.is("10: amount", x.part(1, i, 1), parts[i][1]);
        }
        DUE.is("10: its DAY", x.journal(1, 0), 7);
        DUE.is("10: reversed again", x.reverse(0), -3);
        DUE.is("10: a REVERSAL", x.reverse(1), -3);
        DUE.is("10: REVERSALS", x.told(8), 1);
        DUE.is("10: balance", x.balance(1, 7), 0);
        DUE.is("10: balance by the day ahead", x.balance(1, 6), 9);
    }

    private static void reverseRefused() {
        DoubleLedger x = Due.small();
        Due.post(x, 1, 9, 2, -9);
        x.limits(1, 0, 9);
        Due.post(x, 1, -2, 2, 2);
        DUE.is("10: refused by a FLOOR", x.reverse(0), -17);
        DUE.isText("10: why", Due.causes(x), "7 0,4 1,5 1");
        DUE.is("10: three CAUSES", x.told(7), 3);
        DUE.is("10: nothing is OPEN", x.told(2), -5);
        DUE.is("10: nothing is POSTED", x.told(1), 2);
        DUE.is("10: it isn't REVERSED", x.journal(0, 3), -5);
        x.limits(2, -7, 1000);
        DUE.is("10: within", x.limits(1, -1000, 7), 1);
        DUE.is("10: refused by a CEILING", x.reverse(1), -17);
        DUE.isText("10: why", Due.causes(x), "7 1,4 1,6 1");
        x.limits(1, -1000, 1000);
        DUE.is("10: the second account", x.reverse(1), -17);
        DUE.isText("10: why", Due.causes(x), "7 1,4 2,5 2");
        DUE.is("10: now it goes", x.reverse(0), 2);
        DUE.isText("10: no causes", Due.causes(x), "");
    }

    private static void sixty() {
        DoubleLedger x = Due.small();
        for (int i = 0; i < 59; i++) {
            DUE.is("6: journal " + i, Due.post(x, 1, 1, 2, -1), i);
        }
        DUE.is("10: the 60th", x.reverse(58), 59);
        DUE.is("6: the 61st", x.begin(), -4);
        DUE.is("10: the 61st", x.reverse(0), -4);
        DUE.is("10: the 61st, STATE first", x.reverse(59), -3);
        DUE.is("10: the 61st, NONE first", x.reverse(60), -1);
        DUE.is("33: the 61st", Due.read(x, "1 1;2 -1"), -4);
        DUE.is("33: the 61st, a REV that can be", Due.read(x, "1 -1;2 1 REV0"), -4);
        DUE.is("33: the 61st, a REV that can't", Due.read(x, "1 -1;2 1 REV58"), -3);
        DUE.is("33: the 61st, a FAULT", Due.read(x, "1 -1;2 x"), -107);
        DUE.is("6: sixty", x.told(1), 60);
        DUE.is("14: balance", x.balance(1, 0), 58);
    }

    private static void journalAndPart() {
        DoubleLedger x = Due.small();
        DUE.is("11: none", x.journal(0, 0), -1);
        DUE.is("12: none", x.part(0, 0, 0), NO);
        x.days(42);
        Due.post(x, 1, 1000000, 2, -1000000);
        x.reverse(0);
        Due.post(x, 3, 5, 4, -2, 4, -3);
        int[][] due = {{42, 2, -5, 1}, {42, 2, 0, -5}, {42, 3, -5, -5}};
        for (int journal = 0; journal < 3; journal++) {
            for (int what = 0; what < 4; what++) {
                DUE.is("11: journal(" + journal + ", " + what + ")", x.journal(journal, what), due[journal][what]);
            }
        }
        DUE.is("11: what", x.journal(0, 4), -1);
        DUE.is("11: what", x.journal(0, -1), -1);
        DUE.is("11: journal", x.journal(3, 0), -1);
        DUE.is("11: journal", x.journal(-1, 0), -1);
        DUE.is("12: amount", x.part(0, 0, 1), 1000000);
        DUE.is("12: amount", x.part(0, 1, 1), -1000000);
        DUE.is("12: account", x.part(2, 2, 0), 4);
        DUE.is("12: i", x.part(2, 3, 0), NO);
        DUE.is("12: i", x.part(0, 2, 0), NO);
        DUE.is("12: i", x.part(0, -1, 0), NO);
        DUE.is("12: i", x.part(0, Integer.MAX_VALUE, 0), NO);
        DUE.is("12: what", x.part(0, 0, 2), NO);
        DUE.is("12: what", x.part(0, 0, -1), NO);
        DUE.is("12: journal", x.part(3, 0, 0), NO);
        DUE.is("12: journal", x.part(-1, 0, 0), NO);
    }

    private static void causesStay() {
        DoubleLedger x = Due.small();
        DUE.is("13: none", x.cause(0, 0), -5);
        DUE.is("13: i", x.cause(-1, 0), -1);
        DUE.is("13: what", x.cause(0, 2), -1);
        DUE.is("13: what", x.cause(5, -1), -1);
        Due.post(x, 1, 3);
        DUE.is("13: which", x.cause(0, 0), 2);
        DUE.is("13: with", x.cause(0, 1), 1);
        DUE.is("13: no next", x.cause(1, 1), -5);
        DUE.is("13: far", x.cause(Integer.MAX_VALUE, 1), -5);
        String few = "2 1";
        x.reverse(0);
        x.begin();
        x.posting(9, 1);
        x.posting(1, 0);
        DUE.isText("13: NONE, STATE, BAD leave them", Due.causes(x), few);
        x.cancel();
        x.post();
        Due.read(x, "1 1");
        DUE.isText("13: STATE and a FAULT leave them", Due.causes(x), few);
        Due.read(x, "1 1;2 -1 REV0");
        DUE.isText("13: a REV that can't be leaves them", Due.causes(x), few);
        Due.read(x, "1 1;2 -1;1 1;2 -1;1 1;2 -1;1 1;2 -1;1 1;2 -1;1 1;2 -1");
        DUE.isText("13: FULL leaves them", Due.causes(x), few);
        DUE.is("13: tried anew", Due.read(x, "1 1;3 -1"), -11);
        DUE.isText("13: tried anew", Due.causes(x), "1 0");
        DUE.is("13: posted", Due.read(x, "1 1;2 -1"), 0);
        DUE.isText("13: posted", Due.causes(x), "");
    }

    private static void balanceAndBranch() {
        DoubleLedger x = Due.small();
        x.account(3, 0, 0);
        Due.post(x, 1, 10, 2, -10);
        x.days(5);
        Due.post(x, 1, 3, 5, 4, 2, -7, 3, 6, 4, -6);
        x.days(5);
        Due.post(x, 1, -1, 0, 1);
        long[][] due = {
            {1, 0, 10}, {1, 4, 10}, {1, 5, 13}, {1, 9, 13}, {1, 10, 12}, {1, 999, 12},
            {2, 0, -10}, {2, 999, -17}, {0, 9, 0}, {0, 10, 1}, {5, 5, 4}, {3, 4, 0}, {3, 5, 6},
            {6, 0, NO}, {-1, 0, NO}, {0, -1, NO}, {0, 1000, NO},
        };
        for (long[] d : due) {
            DUE.is("14: balance(" + d[0] + ", " + d[1] + ")", x.balance((int) d[0], (int) d[1]), d[2]);
        }
        long[][] branches = {
            {1, 0, 0, 10}, {1, 0, 5, 17}, {1, 0, 10, 16}, {1, 1, 5, 6}, {1, 1, 4, 0}, {3, 0, 5, 4}, {3, 1, 5, 6},
            {0, 0, 10, 0}, {0, 1, 10, 0}, {2, 0, 10, -17}, {4, 1, 10, -6}, {4, 0, 10, 0}, {1, 3, 999, 0},
            {6, 0, 0, NO}, {-1, 0, 0, NO}, {0, 4, 0, NO}, {0, -1, 0, NO}, {0, 0, -1, NO}, {0, 0, 1000, NO},
        };
        for (long[] d : branches) {
            String call = "15: branch(" + d[0] + ", " + d[1] + ", " + d[2] + ")";
            DUE.is(call, x.branch((int) d[0], (int) d[1], (int) d[2]), d[3]);
        }
    }
}
