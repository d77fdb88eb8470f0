/** Promises 42 and 43: image, undo. */
public final class ImageTest {
    private static final Due DUE = new Due("ImageTest");
    private static final long NO = DoubleLedger.NO;

    public static void main(String[] args) {
        undo();
        openJournalAndCauses();
        notInTheImage();
        closedPeriods();
        DUE.end();
    }

    private static void undo() {
        DoubleLedger x = Due.small();
        DUE.is("43: there is none", x.undo(), -3);
        x.limits(1, -5, 50);
        x.budget(1, 0, 77);
        x.rate(1, 3, 2, 5);
        Due.post(x, 1, 10, 2, -10);
        DUE.is("42: image", x.image(), 1);
        change(x);
        DUE.is("43: undo", x.undo(), 1);
        isAsThen(x);
        change(x);
        DUE.is("43: undo again", x.undo(), 1);
        isAsThen(x);
        change(x);
        DUE.is("42: a new image", x.image(), 3);
        x.reverse(2);
        DUE.is("43: undo to the new one", x.undo(), 3);
        DUE.is("43: not REVERSED", x.journal(2, 3), -5);
        DUE.is("43: rates", x.told(0), 6);
    }

    private static void change(DoubleLedger x) {
        x.account(1, 0, 3);
        x.limits(5, 0, 0);
        x.limits(1, Long.MIN_VALUE, Long.MAX_VALUE);
        x.budget(1, 0, 5);
        x.budget(5, 2, 8);
        x.rate(1, 3, 1, 1);
        x.rate(1, 4, 7, 1);
        x.reverse(0);
        x.days(10);
        Due.post(x, 1, 500, 2, -500);
    }

    private static void isAsThen(DoubleLedger x) {
        DUE.is("43: accounts", x.told(0), 5);
        DUE.is("43: DAY", x.told(3), 0);
        DUE.is("43: JOURNALS", x.told(1), 1);
        DUE.is("43: REVERSALS", x.told(8), 0);
        DUE.is("43: not REVERSED", x.journal(0, 3), -5);
        DUE.is("43: balance", x.balance(1, 999), 10);
        DUE.is("43: BUDGET", x.left(1, 0), 67);
        DUE.is("43: RATE", x.rateOf(1, 5, 0), 2);
        DUE.is("43: RATE", x.rateOf(1, 5, 1), 5);
        DUE.is("43: RATES", x.rate(1, 3, 2, 5), 1);
        DUE.is("43: CEILING", Due.post(x, 1, 41, 2, -41), -14);
        x.cancel();
        DUE.is("43: FLOOR", Due.post(x, 1, -16, 2, 16), -14);
        x.cancel();
        DUE.is("43: a new account has no BUDGET", x.account(1, 0, 3), 5);
        DUE.is("43: a new account has no BUDGET", x.left(5, 2), 0);
        DUE.is("43: a new account has no limits", Due.post(x, 5, 1, 2, -1), 1);
        DUE.is("43: undo", x.undo(), 1);
    }

    private static void openJournalAndCauses() {
        DoubleLedger x = Due.small();
        Due.post(x, 1, 10, 2, -9);
        DUE.is("42: image", x.image(), 0);
        x.posting(2, -1);
        x.post();
        DUE.isText("43: no causes", Due.causes(x), "");
        DUE.is("43: undo", x.undo(), 0);
        DUE.isText("43: CAUSES", Due.causes(x), "1 0");
        DUE.is("43: OPEN", x.told(2), 2);
        DUE.is("43: its POSTINGS", x.posting(2, -1), 3);
        DUE.is("43: it is POSTED", x.post(), 0);
        DUE.is("43: its AMOUNTS", x.part(0, 1, 1), -9);
        x.undo();
        x.cancel();
        Due.post(x, 4, 2);
        DUE.isText("43: other CAUSES", Due.causes(x), "2 1");
        DUE.is("43: undo", x.undo(), 0);
        DUE.isText("43: CAUSES", Due.causes(x), "1 0");
        x.posting(2, -1);
        DUE.is("43: its POSTINGS again", x.post(), 0);
        DUE.is("43: its accounts again", x.part(0, 0, 0), 1);
        DUE.is("43: its AMOUNTS again", x.part(0, 0, 1), 10);
        x.undo();
        x.cancel();
        DUE.is("42: without an OPEN one", x.image(), 0);
        Due.open(x, 1, 3);
        DUE.is("43: undo", x.undo(), 0);
        DUE.is("43: none is OPEN", x.told(2), -5);
    }

    private static void notInTheImage() {
        DoubleLedger x = Due.small();
        Due.post(x, 1, 10, 2, -10);
        Due.feed(x, "1 ");
        x.image();
        Due.feed(x, "5;2 -5");
        x.list(1, 3);
        x.set(1, 2, 9);
        Due.post(x, 1, 20, 2, -20);
        x.spell(1);
        DUE.is("43: undo", x.undo(), 1);
        DUE.is("43: THE TAPE stays", x.told(5), 8);
        DUE.isText("43: THE PAPER stays", Due.paper(x), "1 20;2 -20");
        DUE.is("43: LISTS stay", x.get(1, 2), 9);
        DUE.is("43: THE TAPE is read", x.read(), 1);
        DUE.is("43: THE TAPE is read", x.part(1, 0, 1), 5);
    }

    private static void closedPeriods() {
        DoubleLedger x = Due.small();
        Due.post(x, 1, 10, 2, -10);
        x.image();
        Due.days(x, 100);
        x.close(0);
        DUE.is("43: undo", x.undo(), 1);
        DUE.is("43: not CLOSED", x.seal(0), NO);
        DUE.is("43: not CLOSED", x.told(4), 0);
        DUE.is("43: posted again", Due.post(x, 1, 1, 2, -1), 1);
        Due.days(x, 100);
        x.close(0);
        long seal = x.seal(0);
        DUE.is("42: image", x.image(), 2);
        Due.days(x, 100);
        x.close(1);
        x.undo();
        DUE.is("43: CLOSED", x.told(4), 1);
        DUE.is("43: its SEAL", x.seal(0), seal);
        DUE.is("43: the other is not", x.seal(1), NO);
        DUE.is("43: audit", x.audit(), -5);
    }
}
