import java.util.ArrayList;
import java.util.List;
import java.util.Map;

/**
 * One run of calls on a new object, told line by line; src/test/edges/README.md says how.
 * It keeps the calls that made the ledger what it is, so that Looks can make it anew.
 */
final class EdgeRun {
    private final Due due;
    private final Map<String, List<String>> setups;
    private final DoubleLedger x = new DoubleLedger();
    private final List<EdgeCall> made = new ArrayList<>();
    private String title = "";
    private int calls = 0;
    private String lookedAt = "";
    private List<String> before = List.of();

    EdgeRun(Due due, Map<String, List<String>> setups) {
        this.due = due;
        this.setups = setups;
    }

    void line(String at, String line) {
        title = at + ": " + line;
        tell(line);
    }

    private void tell(String line) {
        int star = line.indexOf(" * ");
        if (star > 0 && line.substring(0, star).matches("[0-9]+")) {
            for (int i = Integer.parseInt(line.substring(0, star)); i > 0; i--) {
                tell(line.substring(star + 3));
            }
            return;
        }
        String mark = line.startsWith("!c ") ? "!c" : line.startsWith("! ") ? "!" : "";
        String rest = line.substring(mark.length()).trim();
        int colon = rest.indexOf(" : ");
        String instead = colon < 0 ? "" : rest.substring(colon + 3).trim();
        rest = colon < 0 ? rest : rest.substring(0, colon).trim();
        int equal = (rest + " ").lastIndexOf(" = ");
        String answer = equal < 0 ? "" : rest.substring(equal + 2).trim();
        word(mark, equal < 0 ? rest : rest.substring(0, equal).trim(), answer, instead);
    }

    /** The words that stand for several calls, and the calls themselves. */
    private void word(String mark, String words, String answer, String instead) {
        int blank = words.indexOf(' ');
        String first = blank < 0 ? words : words.substring(0, blank);
        String rest = blank < 0 ? "" : words.substring(blank + 1).trim();
        switch (first) {
            case "with": setup(rest); break;
            case "accounts": accounts(Integer.parseInt(rest)); break;
            case "day": day(Integer.parseInt(rest)); break;
            case "text": text(rest); break;
            case "opened": opened(rest); break;
            case "posted": opened(rest); ask(mark, "post", answer, instead); break;
            case "read": text(rest); ask(mark, "read", answer, instead); break;
            case "causes": due.isText(title, quoted(Due.causes(x)), answer); calls += 2 * x.told(7) + 2; break;
            case "spelled": spelled(rest, answer); break;
            case "row": row(rest, answer); break;
            default: ask(mark, words, answer, instead); break;
        }
    }

    private void setup(String name) {
        List<String> lines = setups.get(name);
        if (lines == null) {
            throw new IllegalArgumentException("no setup " + name);
        }
        lines.forEach(this::tell);
    }

    private void accounts(int count) {
        for (int i = (int) one("told 0"); i < count; i++) {
            make("account 0 0 0");
        }
    }

    private void day(int day) {
        for (int now = (int) one("told 3"); now < day; now += 100) {
            make("days " + Math.min(100, day - now));
        }
    }

    private void text(String text) {
        if (text.isEmpty()) {
            return;
        }
        String inside = text.substring(1, text.length() - 1);
        for (int i = 0; i < inside.length(); i++) {
            make("feed " + (int) inside.charAt(i));
        }
    }

    private void opened(String postings) {
        make("begin");
        String[] numbers = postings.isEmpty() ? new String[0] : postings.split(" +");
        for (int i = 0; i + 1 < numbers.length; i += 2) {
            make("posting " + numbers[i] + " " + numbers[i + 1]);
        }
    }

    private void spelled(String journal, String answer) {
        long bytes = one("spell " + journal);
        due.isText(title, quoted(Due.paper(x)), answer);
        due.is(title, bytes, answer.length() - 2);
        calls += 2 * (int) bytes + 1;
        made.add(EdgeCall.all("spell " + journal).get(0));
    }

    private void row(String list, String answer) {
        StringBuilder row = new StringBuilder();
        for (int i = 0; i < 41 && x.set(Integer.parseInt(list), i, x.get(Integer.parseInt(list), i)) == 1; i++) {
            row.append(i > 0 ? " " : "").append(x.get(Integer.parseInt(list), i));
            calls += 3;
        }
        due.isText(title, row.toString(), answer);
    }

    private static String quoted(String text) {
        return "\"" + text + "\"";
    }

    private void make(String words) {
        ask("", words, "", "");
    }

    private long one(String words) {
        calls++;
        return EdgeCall.all(words).get(0).on(x);
    }

    private void ask(String mark, String words, String answer, String instead) {
        for (EdgeCall call : EdgeCall.all(words)) {
            calls++;
            long got = call.on(x);
            if (!answer.isEmpty()) {
                due.is(title + " -> " + call, got, EdgeCall.number(answer, true));
            }
            if (mark.isEmpty()) {
                made.add(call);
            } else {
                refused(mark, call, instead(call, instead));
            }
        }
        due.is(title + ": more than 512 calls", calls <= Looks.CALLS ? 1 : calls, 1);
    }

    /** What the document says changes though the call is refused, as calls that change just that. */
    private static List<EdgeCall> instead(EdgeCall call, String told) {
        List<EdgeCall> found = new ArrayList<>();
        if (call.name().equals("read")) {
            found.add(EdgeCall.of("clear"));
        }
        for (String words : told.isEmpty() ? new String[0] : told.split(";")) {
            found.addAll(EdgeCall.all(words));
        }
        return found;
    }

    private void refused(String mark, EdgeCall call, List<EdgeCall> instead) {
        boolean isWithCauses = mark.equals("!");
        List<EdgeCall> whole = new ArrayList<>(made);
        if (call.name().equals("read")) {
            forgetTape();
        }
        String key = made + " " + instead + isWithCauses;
        if (!key.equals(lookedAt)) {
            before = Looks.at(made, instead, isWithCauses);
            lookedAt = key;
        }
        List<String> behind = Looks.at(whole, List.of(call), isWithCauses);
        due.is(title + " -> " + call + ": as many looks", behind.size(), before.size());
        for (int i = 0; i < Math.min(behind.size(), before.size()); i++) {
            if (!behind.get(i).equals(before.get(i))) {
                due.isText(title + " -> behind " + call, behind.get(i), before.get(i));
                return;
            }
        }
        if (isWithCauses) {
            made.addAll(instead);
        } else {
            made.clear();
            made.addAll(whole);
            made.add(call);
        }
    }

    /** What was fed last is as if it had never been, once THE TAPE is empty. */
    private void forgetTape() {
        while (!made.isEmpty() && List.of("feed", "clear").contains(made.get(made.size() - 1).name())) {
            made.remove(made.size() - 1);
        }
    }
}
