import java.math.BigInteger;
import java.util.ArrayList;
import java.util.Arrays;
import java.util.List;
import java.util.TreeMap;
import java.util.regex.Matcher;
import java.util.regex.Pattern;

/** The document once more, written another way: lists, maps, great numbers, patterns. ModelTest holds the class against it. */
final class LedgerModel {
    static final int NONE = -1, BAD = -2, STATE = -3, FULL = -4;
    static final long NO = Long.MIN_VALUE;

    record Account(int parent, int currency, int sort, long floor, long ceiling) { }

    record Posting(int account, long amount) { }

    record Journal(int day, List<Posting> postings, int reverses) { }

    record Cause(int which, int with) { }

    record Ratio(BigInteger above, BigInteger below) {
        static Ratio of(long above, long below) {
            return new Ratio(BigInteger.valueOf(above), BigInteger.valueOf(below)).lowest();
        }

        Ratio lowest() {
            BigInteger g = above.gcd(below);
            return new Ratio(above.divide(g), below.divide(g));
        }

        Ratio plus(Ratio o) {
            return new Ratio(above.multiply(o.below).add(o.above.multiply(below)), below.multiply(o.below)).lowest();
        }

        Ratio times(long n) {
            return new Ratio(above.multiply(BigInteger.valueOf(n)), below).lowest();
        }

        long part(int part) {
            return (part == 0 ? above : below).longValueExact();
        }
    }

    /** What THE IMAGE holds; its lists are copied, what they hold never changes. */
    private static final class All {
        List<Account> accounts = new ArrayList<>();
        List<Journal> journals = new ArrayList<>();
        List<Posting> open = null;
        List<Cause> causes = List.of();
        List<Long> seals = new ArrayList<>();
        List<TreeMap<Integer, Ratio>> rates = new ArrayList<>();
        TreeMap<Integer, Long> budgets = new TreeMap<>();
        int day = 0;

        All copy() {
            All c = new All();
            c.accounts = new ArrayList<>(accounts);
            c.journals = new ArrayList<>(journals);
            c.open = open == null ? null : new ArrayList<>(open);
            c.causes = causes;
            c.seals = new ArrayList<>(seals);
            for (TreeMap<Integer, Ratio> told : rates) {
                c.rates.add(new TreeMap<>(told));
            }
            c.budgets = new TreeMap<>(budgets);
            c.day = day;
            return c;
        }
    }

    private All all = new All();
    private All image = null;
    private String tape = "";
    private String paper = "";
    private final long[][] lists = new long[4][];

    LedgerModel() {
        all.accounts.add(new Account(-5, 0, -5, Long.MIN_VALUE, Long.MAX_VALUE));
        for (int i = 0; i < 4; i++) {
            all.rates.add(new TreeMap<>());
        }
    }

    private boolean isAccount(int a) { return a >= 0 && a < all.accounts.size(); }
    private boolean isJournal(int j) { return j >= 0 && j < all.journals.size(); }
    private static boolean among(int n, int least, int most) { return n >= least && n <= most; }

    /** From an account up to the ROOT. */
    private List<Integer> way(int account) {
        List<Integer> way = new ArrayList<>();
        for (int a = account; a >= 0; a = all.accounts.get(a).parent) {
            way.add(a);
        }
        return way;
    }

    private long sum(int account, int from, int to) {
        return all.journals.stream().filter(j -> among(j.day, from, to)).flatMap(j -> j.postings.stream())
            .filter(p -> p.account == account).mapToLong(Posting::amount).sum();
    }

    private long now(int account) { return sum(account, 0, 999); }

    private long sumBranch(int top, int currency, int from, int to) {
        return all.journals.stream().filter(j -> among(j.day, from, to)).flatMap(j -> j.postings.stream())
            .filter(p -> all.accounts.get(p.account).currency == currency && way(p.account).contains(top))
            .mapToLong(Posting::amount).sum();
    }

    private int reversedBy(int journal) {
        for (int j = 0; j < all.journals.size(); j++) {
            if (all.journals.get(j).reverses == journal) {
                return j;
            }
        }
        return -5;
    }

    public int account(int parent, int currency, int sort) {
        if (!isAccount(parent)) return NONE;
        if (!among(currency, 0, 3) || !among(sort, 0, 3)) return BAD;
        if (all.accounts.size() == 30) return FULL;
        all.accounts.add(new Account(parent, currency, sort, Long.MIN_VALUE, Long.MAX_VALUE));
        return all.accounts.size() - 1;
    }

    public int of(int account, int what) {
        if (!isAccount(account) || !among(what, 0, 6)) return NONE;
        Account a = all.accounts.get(account);
        int straight = 0;
        int branch = 0;
        for (int i = 0; i < all.accounts.size(); i++) {
            straight += all.accounts.get(i).parent == account ? 1 : 0;
            branch += way(i).contains(account) ? 1 : 0;
        }
        int[] row = {a.parent, a.currency, a.sort, straight, branch, way(account).size() - 1, statement(account).size()};
        return row[what];
    }

    public int limits(int account, long floor, long ceiling) {
        if (!isAccount(account)) return NONE;
        if (floor > ceiling) return BAD;
        if (now(account) < floor || now(account) > ceiling) return STATE;
        Account a = all.accounts.get(account);
        all.accounts.set(account, new Account(a.parent, a.currency, a.sort, floor, ceiling));
        return 1;
    }

    public int days(int n) {
        if (!among(n, 1, 100) || all.day + n > 999) return BAD;
        return all.day += n;
    }

    public int begin() {
        if (all.open != null) return STATE;
        if (all.journals.size() == 60) return FULL;
        all.open = new ArrayList<>();
        return all.journals.size();
    }

    public int posting(int account, long amount) {
        if (!isAccount(account)) return NONE;
        if (amount == 0 || amount > 1000000 || amount < -1000000) return BAD;
        if (all.open == null) return STATE;
        if (all.open.size() == 10) return FULL;
        all.open.add(new Posting(account, amount));
        return all.open.size();
    }

    public int cancel() {
        if (all.open == null) return STATE;
        int had = all.open.size();
        all.open = null;
        return had;
    }

    private List<Cause> why(List<Posting> postings) {
        if (postings.size() < 2) return List.of(new Cause(2, postings.size()));
        for (int currency = 0; currency < 4; currency++) {
            int c = currency;
            if (postings.stream().filter(p -> all.accounts.get(p.account).currency == c).mapToLong(Posting::amount).sum() != 0) {
                return List.of(new Cause(1, currency));
            }
        }
        if (all.day / 100 < all.seals.size()) return List.of(new Cause(3, all.day / 100));
        for (Posting first : postings) {
            int a = first.account;
            long then = now(a) + postings.stream().filter(p -> p.account == a).mapToLong(Posting::amount).sum();
            if (then < all.accounts.get(a).floor) return List.of(new Cause(4, a), new Cause(5, a));
            if (then > all.accounts.get(a).ceiling) return List.of(new Cause(4, a), new Cause(6, a));
        }
        return List.of();
    }

    private int tryIt(List<Posting> postings, int reverses) {
        List<Cause> found = why(postings);
        if (!found.isEmpty() && reverses >= 0) {
            found = new ArrayList<>(found);
            found.add(0, new Cause(7, reverses));
        }
        all.causes = found;
        if (!found.isEmpty()) return -10 - found.get(0).which;
        all.journals.add(new Journal(all.day, List.copyOf(postings), reverses));
        return all.journals.size() - 1;
    }

    public int post() {
        if (all.open == null) return STATE;
        int answer = tryIt(all.open, -5);
        if (answer >= 0) all.open = null;
        return answer;
    }

    private List<Posting> turned(int journal) {
        return all.journals.get(journal).postings.stream().map(p -> new Posting(p.account, -p.amount)).toList();
    }

    private boolean mayBeReversed(int journal) {
        return isJournal(journal) && all.journals.get(journal).reverses < 0 && reversedBy(journal) < 0;
    }

    public int reverse(int journal) {
        if (!isJournal(journal)) return NONE;
        if (all.open != null || !mayBeReversed(journal)) return STATE;
        if (all.journals.size() == 60) return FULL;
        return tryIt(turned(journal), journal);
    }

    public int journal(int journal, int what) {
        if (!isJournal(journal) || !among(what, 0, 3)) return NONE;
        Journal j = all.journals.get(journal);
        return new int[] {j.day, j.postings.size(), j.reverses, reversedBy(journal)}[what];
    }

    public long part(int journal, int i, int what) {
        if (!isJournal(journal) || !among(what, 0, 1)) return NO;
        List<Posting> postings = all.journals.get(journal).postings;
        if (!among(i, 0, postings.size() - 1)) return NO;
        return what == 0 ? postings.get(i).account : postings.get(i).amount;
    }

    public int cause(int i, int what) {
        if (i < 0 || !among(what, 0, 1)) return NONE;
        if (i >= all.causes.size()) return -5;
        return what == 0 ? all.causes.get(i).which : all.causes.get(i).with;
    }

    public long balance(int account, int day) {
        return isAccount(account) && among(day, 0, 999) ? sum(account, 0, day) : NO;
    }

    public long branch(int account, int currency, int day) {
        boolean fits = isAccount(account) && among(currency, 0, 3) && among(day, 0, 999);
        return fits ? sumBranch(account, currency, 0, day) : NO;
    }

    private long sealOf(int period) {
        long z = 17;
        for (Journal j : all.journals) {
            if (among(j.day, 100 * period, 100 * period + 99)) {
                for (Posting p : j.postings) {
                    z = 31 * (31 * z + p.account) + p.amount;
                }
            }
        }
        return z;
    }

    public int close(int period) {
        if (!among(period, 0, 9)) return NONE;
        if (period < all.seals.size() || period > all.seals.size() || all.day <= 100 * period + 99) return STATE;
        all.seals.add(sealOf(period));
        return all.seals.size();
    }

    public long seal(int period) {
        return among(period, 0, all.seals.size() - 1) ? all.seals.get(period) : NO;
    }

    public int audit() {
        for (int period = 0; period < all.seals.size(); period++) {
            if (all.seals.get(period) != sealOf(period)) return period;
        }
        return -5;
    }

    public int rate(int currency, int day, int above, int below) {
        if (!among(currency, 1, 3)) return NONE;
        if (!among(day, 0, 999) || !among(above, 1, 999) || !among(below, 1, 999)) return BAD;
        if (day / 100 < all.seals.size()) return STATE;
        TreeMap<Integer, Ratio> told = all.rates.get(currency);
        if (told.size() == 20 && !told.containsKey(day)) return FULL;
        told.put(day, Ratio.of(above, below));
        return told.size();
    }

    private Ratio held(int currency, int day) {
        var entry = all.rates.get(currency).floorEntry(day);
        return entry == null ? Ratio.of(1, 1) : entry.getValue();
    }

    public int rateOf(int currency, int day, int part) {
        if (!among(currency, 0, 3) || !among(part, 0, 1)) return NONE;
        if (!among(day, 0, 999)) return BAD;
        return (int) held(currency, day).part(part);
    }

    private Ratio valueOf(int account, int day) {
        Ratio sum = Ratio.of(0, 1);
        for (int currency = 0; currency < 4; currency++) {
            sum = sum.plus(held(currency, day).times(sumBranch(account, currency, 0, day)));
        }
        return sum;
    }

    public long value(int account, int day, int part) {
        boolean fits = isAccount(account) && among(day, 0, 999) && among(part, 0, 1);
        return fits ? valueOf(account, day).part(part) : NO;
    }

    public int real(int account, int day, int what) {
        if (!isAccount(account) || !among(day, 0, 999) || !among(what, 0, 3)) return 0;
        Ratio v = valueOf(account, day);
        double real = (double) v.part(0) / (double) v.part(1);
        long bits = Double.doubleToRawLongBits(real);
        return new int[] {(int) (bits >>> 32), (int) bits, Float.floatToRawIntBits((float) real), (int) real}[what];
    }

    public long gain(int account, int currency, int from, int to, int part) {
        if (!isAccount(account) || !among(currency, 0, 3) || !among(from, 0, 999) || !among(to, from, 999)) return NO;
        if (!among(part, 0, 1)) return NO;
        Ratio more = held(currency, to).plus(held(currency, from).times(-1));
        return more.times(sumBranch(account, currency, 0, to)).part(part);
    }

    private List<long[]> statement(int account) {
        List<long[]> lines = new ArrayList<>();
        long behind = 0;
        for (int j = 0; j < all.journals.size(); j++) {
            for (Posting p : all.journals.get(j).postings) {
                if (p.account == account) {
                    behind += p.amount;
                    lines.add(new long[] {all.journals.get(j).day, j, p.amount, behind});
                }
            }
        }
        return lines;
    }

    public long line(int account, int i, int what) {
        if (!isAccount(account) || !among(what, 0, 3)) return NO;
        List<long[]> lines = statement(account);
        long at = i < 0 ? (long) lines.size() + i : i;
        return at >= 0 && at < lines.size() ? lines.get((int) at)[what] : NO;
    }

    public long trial(int currency, int day, int side) {
        if (!among(currency, 0, 3) || !among(day, 0, 999) || !among(side, 0, 1)) return NO;
        long sum = 0;
        for (int a = 0; a < all.accounts.size(); a++) {
            long one = all.accounts.get(a).currency == currency ? sum(a, 0, day) : 0;
            if (one > 0 == (side == 0)) sum += one;
        }
        return sum;
    }

    public long sorts(int sort, int currency) {
        if (!among(sort, 0, 3) || !among(currency, 0, 3)) return NO;
        return all.journals.stream().flatMap(j -> j.postings.stream()).filter(p -> all.accounts.get(p.account).sort == sort
            && all.accounts.get(p.account).currency == currency).mapToLong(Posting::amount).sum();
    }

    public int budget(int account, int period, long v) {
        if (!isAccount(account) || !among(period, 0, 9)) return NONE;
        if (period < all.seals.size()) return STATE;
        all.budgets.put(100 * account + period, v);
        return 1;
    }

    public long left(int account, int period) {
        if (!isAccount(account) || !among(period, 0, 9)) return NO;
        long used = sumBranch(account, all.accounts.get(account).currency, 100 * period, 100 * period + 99);
        return all.budgets.getOrDefault(100 * account + period, 0L) - used;
    }

    public int extreme(int currency, int what) {
        if (!among(currency, 0, 3) || !among(what, 0, 1)) return NONE;
        int best = -5;
        for (int a = all.accounts.size() - 1; a >= 0; a--) {
            if (all.accounts.get(a).currency == currency) {
                if (best < 0 || (what == 0 ? now(a) >= now(best) : now(a) <= now(best))) best = a;
            }
        }
        return best;
    }

    public int meet(int one, int other) {
        if (!isAccount(one) || !isAccount(other)) return NONE;
        List<Integer> way = way(one);
        way.retainAll(way(other));
        return way.get(0);
    }

    public int feed(int letter) {
        if (!among(letter, 1, 127)) return BAD;
        if (tape.length() == 90) return FULL;
        tape += (char) letter;
        return tape.length();
    }

    public int clear() {
        int had = tape.length();
        tape = "";
        return had;
    }

    private static final String PART = "[0-9]{1,2} -?[0-9]{1,7}";
    private static final Pattern TEXT = Pattern.compile(PART + "(;" + PART + ")+( REV[0-9]{1,2})?");

    private static boolean goesOn(String start) {
        Matcher m = TEXT.matcher(start);
        return m.matches() || m.hitEnd();
    }

    /** -1: none. The longest start with which a text goes on, then the numbers within it. */
    private int fault(String text) {
        int place = 0;
        while (place < text.length() && goesOn(text.substring(0, place + 1))) {
            place++;
        }
        Matcher numbers = Pattern.compile("(^|;)([0-9]{1,2})|( -?)([0-9]{1,7})").matcher(text.substring(0, place));
        while (numbers.find()) {
            if (numbers.group(2) != null && !isAccount(Integer.parseInt(numbers.group(2)))) return numbers.start(2);
            if (numbers.group(4) != null && !among(Integer.parseInt(numbers.group(4)), 1, 1000000)) return numbers.start(4);
        }
        return TEXT.matcher(text).matches() ? -1 : place;
    }

    public int read() {
        String text = tape;
        tape = "";
        int fault = fault(text);
        if (fault >= 0) return -100 - fault;
        String[] halves = text.split(" REV");
        List<Posting> postings = new ArrayList<>();
        for (String part : halves[0].split(";")) {
            String[] numbers = part.split(" ");
            postings.add(new Posting(Integer.parseInt(numbers[0]), Long.parseLong(numbers[1])));
        }
        int reverses = halves.length == 2 ? Integer.parseInt(halves[1]) : -5;
        if (all.open != null) return STATE;
        if (reverses >= 0 && !(mayBeReversed(reverses) && turned(reverses).equals(postings))) return STATE;
        if (all.journals.size() == 60 || postings.size() > 10) return FULL;
        return tryIt(postings, reverses);
    }

    String spelled(int journal) {
        Journal j = all.journals.get(journal);
        List<String> parts = j.postings.stream().map(p -> p.account + " " + p.amount).toList();
        return String.join(";", parts) + (j.reverses >= 0 ? " REV" + j.reverses : "");
    }

    public int spell(int journal) {
        if (!isJournal(journal)) return NONE;
        paper = spelled(journal);
        return paper.length();
    }

    public int paper(int i) { return among(i, 0, paper.length() - 1) ? paper.charAt(i) : NONE; }

    public int told(int what) {
        if (!among(what, 0, 8)) return NONE;
        int reversals = (int) all.journals.stream().filter(j -> j.reverses >= 0).count();
        return new int[] {all.accounts.size(), all.journals.size(), all.open == null ? -5 : all.open.size(), all.day,
            all.seals.size(), tape.length(), paper.length(), all.causes.size(), reversals}[what];
    }

    public int list(int list, int n) {
        if (!among(list, 0, 3)) return NONE;
        if (n > 40) return BAD;
        if (n < 0) return -14;
        lists[list] = new long[n];
        return 1;
    }

    public int set(int list, int i, long v) {
        if (!among(list, 0, 3)) return NONE;
        if (lists[list] == null) return -11;
        if (!among(i, 0, lists[list].length - 1)) return -13;
        lists[list][i] = v;
        return 1;
    }

    public long get(int list, int i) {
        boolean held = among(list, 0, 3) && lists[list] != null && among(i, 0, lists[list].length - 1);
        return held ? lists[list][i] : NO;
    }

    public int lay(int list, int i) {
        if (!among(list, 0, 3)) return NONE;
        if (lists[list] == null) return -11;
        if (i < 0) return -13;
        int count = all.accounts.size();
        int room = Math.max(0, Math.min(count, lists[list].length - i));
        for (int a = 0; a < room; a++) {
            lists[list][i + a] = now(a);
        }
        return room == count ? count : -13;
    }

    public int judge(int list, int i) {
        if (!among(list, 0, 3)) return NONE;
        if (lists[list] == null) return -11;
        if (i < 0 || i >= lists[list].length) return 100;
        long[] rest = Arrays.copyOfRange(lists[list], i, lists[list].length);
        for (int a = 0; a < Math.min(rest.length, all.accounts.size()); a++) {
            if (rest[a] != now(a)) return a;
        }
        return rest.length < all.accounts.size() ? 100 + rest.length : -5;
    }

    public int image() {
        image = all.copy();
        return all.journals.size();
    }

    public int undo() {
        if (image == null) return STATE;
        all = image.copy();
        return all.journals.size();
    }
}
