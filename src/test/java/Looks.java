import java.util.ArrayList;
import java.util.List;

/**
 * What later calls show of a ledger. A ledger is given as the calls that make it and made anew for each look,
 * so that no object is used for more than 512 calls, and a look may change what it looks at.
 */
final class Looks {
    static final int CALLS = 512;
    private static final int LEAST_ROOM = 40;
    private static final int[] DAYS = {0, 1, 6, 7, 8, 49, 50, 59, 60, 61, 99, 100, 101, 119, 120, 121, 130, 150, 199, 200, 500, 998, 999};

    private final List<EdgeCall> made;
    private final List<EdgeCall> shown = new ArrayList<>();
    private final List<String> seen = new ArrayList<>();
    private final boolean isWithCauses;

    private Looks(List<EdgeCall> made, List<EdgeCall> then, boolean isWithCauses) {
        this.made = new ArrayList<>(made);
        this.made.addAll(then);
        this.isWithCauses = isWithCauses;
    }

    /** The answers of many calls on the ledger that these calls make, each told with its call. */
    static List<String> at(List<EdgeCall> made, List<EdgeCall> then, boolean isWithCauses) {
        Looks now = new Looks(made, then, isWithCauses);
        now.lookAtAll();
        now.lookByChanging();
        EdgeCall undo = EdgeCall.of("undo");
        if (undo.on(now.ledger()) >= 0) {
            Looks imaged = new Looks(now.made, List.of(undo), true);
            imaged.lookAtAll();
            imaged.lookByChanging();
            now.seen.addAll(imaged.seen);
        }
        return now.seen;
    }

    private DoubleLedger ledger() {
        DoubleLedger x = new DoubleLedger();
        made.forEach(call -> call.on(x));
        return x;
    }

    private int told(int what) {
        return (int) EdgeCall.of("told", what).on(ledger());
    }

    private void show(String name, long... numbers) {
        shown.add(EdgeCall.of(name, numbers));
    }

    private void lookAtAll() {
        showAccounts();
        showJournals();
        showRates();
        showTextsAndLists();
        int room = CALLS - made.size();
        if (room < LEAST_ROOM) {
            throw new IllegalStateException("a run of " + made.size() + " calls leaves no room to look at it");
        }
        for (int first = 0; first < shown.size(); first += room) {
            answer(shown.subList(first, Math.min(shown.size(), first + room)));
        }
        shown.clear();
    }

    private void showAccounts() {
        for (int what = 0; what <= 8; what++) {
            show("told", what);
        }
        int day = told(3);
        int accounts = told(0);
        for (int account = 0; account < accounts; account++) {
            for (int what = 0; what <= 6; what++) {
                show("of", account, what);
            }
            show("balance", account, day);
            show("balance", account, 0);
            show("line", account, -1, 3);
            show("value", account, 999, 0);
            for (int currency = 0; currency < 4; currency++) {
                show("branch", account, currency, 999);
            }
            for (int period = 0; period < 10; period++) {
                show("left", account, period);
            }
        }
    }

    private void showJournals() {
        DoubleLedger x = ledger();
        int journals = x.told(1);
        for (int journal = 0; journal < journals; journal++) {
            for (int what = 0; what < 4; what++) {
                show("journal", journal, what);
            }
            int size = x.journal(journal, 1);
            for (int i = 0; i < size; i++) {
                show("part", journal, i, 0);
                show("part", journal, i, 1);
            }
        }
        for (int i = 0; i < 4; i++) {
            show("cause", i, 0);
            show("cause", i, 1);
        }
        for (int period = 0; period < 10; period++) {
            show("seal", period);
        }
        show("audit");
    }

    private void showRates() {
        for (int currency = 0; currency < 4; currency++) {
            for (int day : DAYS) {
                show("rateOf", currency, day, 0);
                show("rateOf", currency, day, 1);
            }
            show("trial", currency, 999, 0);
            show("trial", currency, 999, 1);
            show("extreme", currency, 0);
            show("extreme", currency, 1);
            for (int sort = 0; sort < 4; sort++) {
                show("sorts", sort, currency);
            }
        }
    }

    private void showTextsAndLists() {
        int bytes = told(6);
        for (int i = 0; i <= bytes; i++) {
            show("paper", i);
        }
        for (int list = 0; list < 4; list++) {
            show("judge", list, 0);
            for (int i = 0; i <= 40; i++) {
                show("get", list, i);
            }
        }
    }

    private void lookByChanging() {
        int next = told(1);
        lookAtText("post", next);
        lookAtText("read", next);
        change("posting 0 1", "post", "cause 0..2 0..1", "cancel");
        change("days 1");
        change("days 100");
        change("rate 1..3 999 1 1");
        change("begin", "told 2", "cancel", "told 2");
        change("close " + told(4));
        change("feed 49", "clear");
        change("account 0 0 0");
        change("image", "undo", "told 0..4");
        for (int journal = 0; journal < Math.min(next, 4); journal++) {
            change("cancel", "reverse " + journal, "cause 0..2 0..1");
        }
        int accounts = Math.min(told(0), 6);
        for (int account = 0; account < accounts; account++) {
            lookAtLimits(account);
        }
    }

    /** The OPEN one, or THE TAPE, shown by what is POSTED of it. */
    private void lookAtText(String how, int next) {
        change(how, "told 0..8", "journal " + next + " 0..3", "part " + next + " 0..9 0..1", "spell " + next);
    }

    private void lookAtLimits(int account) {
        int other = partner(account);
        for (int amount : new int[] {1, -1, 1000, -1000, 1000000, -1000000}) {
            change("cancel", "begin", "posting " + account + " " + amount, "posting " + other + " " + -amount, "post",
                "cause 0..2 0..1");
        }
    }

    private int partner(int account) {
        DoubleLedger x = ledger();
        for (int other = x.told(0) - 1; other > 0; other--) {
            if (other != account && x.of(other, 1) == x.of(account, 1)) {
                return other;
            }
        }
        return 0;
    }

    private void change(String... words) {
        List<EdgeCall> calls = new ArrayList<>();
        for (String word : words) {
            calls.addAll(EdgeCall.all(word));
        }
        answer(calls.subList(0, Math.min(calls.size(), CALLS - made.size())));
    }

    private void answer(List<EdgeCall> calls) {
        DoubleLedger x = ledger();
        for (EdgeCall call : calls) {
            long answered = call.on(x);
            if (isWithCauses || !call.name().equals("cause") && !call.isTold(7)) {
                seen.add(call + " answered " + answered);
            }
        }
    }
}
