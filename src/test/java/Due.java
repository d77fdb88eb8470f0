/** Counts answers that are not the ones that are due, and fills ledgers for the tests. */
final class Due {
    private final String name;
    private int calls = 0;
    private int wrong = 0;

    Due(String name) {
        this.name = name;
    }

    void is(String call, long got, long want) {
        calls++;
        if (got != want) {
            wrong++;
            System.out.println(name + ": " + call + " answered " + got + ", due is " + want);
        }
    }

    void isText(String call, String got, String want) {
        calls++;
        if (!got.equals(want)) {
            wrong++;
            System.out.println(name + ": " + call + " answered \"" + got + "\", due is \"" + want + "\"");
        }
    }

    /** Prints the count, and ends the program with 1 if an answer was wrong. */
    void end() {
        System.out.println(name + ": " + calls + " answers looked at, " + wrong + " wrong");
        if (wrong != 0) {
            System.exit(1);
        }
    }

    /** The ROOT; 1 and 2 in currency 0 (ASSET, INCOME); 3 below 1 and 4 below the ROOT in currency 1. */
    static DoubleLedger small() {
        DoubleLedger x = new DoubleLedger();
        x.account(0, 0, 0);
        x.account(0, 0, 2);
        x.account(1, 1, 0);
        x.account(0, 1, 3);
        return x;
    }

    /** Opens a journal with pairs of account and amount, and posts it. */
    static int post(DoubleLedger x, int... pairs) {
        open(x, pairs);
        return x.post();
    }

    static void open(DoubleLedger x, int... pairs) {
        x.begin();
        for (int i = 0; i + 1 < pairs.length; i += 2) {
            x.posting(pairs[i], pairs[i + 1]);
        }
    }

    static void feed(DoubleLedger x, String text) {
        for (int i = 0; i < text.length(); i++) {
            x.feed(text.charAt(i));
        }
    }

    static int read(DoubleLedger x, String text) {
        feed(x, text);
        return x.read();
    }

    static String paper(DoubleLedger x) {
        StringBuilder text = new StringBuilder();
        for (int i = 0; i < x.told(6); i++) {
            text.append((char) x.paper(i));
        }
        return text.toString();
    }

    /** CAUSES as "which with" pairs, parted by commas. */
    static String causes(DoubleLedger x) {
        StringBuilder text = new StringBuilder();
        for (int i = 0; i < x.told(7); i++) {
            text.append(i > 0 ? "," : "").append(x.cause(i, 0)).append(' ').append(x.cause(i, 1));
        }
        return text.toString();
    }

    static void days(DoubleLedger x, int n) {
        for (int rest = n; rest > 0; rest -= 100) {
            x.days(Math.min(rest, 100));
        }
    }
}
