/**
 * A ledger with double entries, as ../shared/DOC.md tells it.
 *
 * Every row is made in its greatest size by a constructor, so that no call makes an object,
 * but for the first image(), which makes the one book that every later image() fills again.
 */
public final class DoubleLedger {
    public static final int NONE = -1, BAD = -2, STATE = -3, FULL = -4;
    public static final long NO = Long.MIN_VALUE;

    private static final int ABSENT = -5, NOTHING = -11, BEYOND = -13, BELOW = -14;
    private static final int ACCOUNTS = 30, CURRENCIES = 4, SORTS = 4;
    private static final int DAYS = 1000, STEP_MOST = 100, PERIODS = 10, PERIOD_DAYS = 100;
    private static final int JOURNALS = 60, POSTINGS = 10, POSTINGS_LEAST = 2, AMOUNT_MOST = 1000000;
    private static final int RATES = 20, RATE_MOST = 999;
    private static final int TAPE_BYTES = 90, LETTER_MOST = 127;
    private static final int LISTS = 4, LIST_PLACES = 40, LIST_ENDED = 100;
    private static final int UNBALANCED = 1, TOO_FEW = 2, CLOSED = 3, BEYOND_LIMITS = 4, FLOOR = 5, CEILING = 6, REFUSED = 7;
    private static final int CAUSES = 3, CAUSE_BASE = -10, FAULT_BASE = -100, FAULTLESS = -1;
    private static final int ACCOUNT_FIGURES = 2, AMOUNT_FIGURES = 7, REVERSED_FIGURES = 2;
    private static final String REVERSED_MARK = " REV";

    // No journal is longer than ten times "29 -1000000", nine signs between them, " REV59".
    private static final int PAPER_BYTES = 125;

    private final Book book = new Book();
    private Book imaged = null;
    private final Slip draft = new Slip();
    private final Tape tape = new Tape();
    private final Sheet sheet = new Sheet();
    private final Rows rows = new Rows();
    private final Fraction fraction = new Fraction();

    public DoubleLedger() {
    }

    public int account(int parent, int currency, int sort) {
        if (!book.chart.has(parent)) {
            return NONE;
        }
        if (!isCurrency(currency) || !isSort(sort)) {
            return BAD;
        }
        return book.chart.add(parent, currency, sort);
    }

    public int of(int account, int what) {
        Chart chart = book.chart;
        if (!chart.has(account)) {
            return NONE;
        }
        switch (what) {
            case 0: return chart.parent[account];
            case 1: return chart.currency[account];
            case 2: return chart.sort[account];
            case 3: return chart.countStraightBelow(account);
            case 4: return chart.countBranch(account);
            case 5: return chart.countAbove(account);
            case 6: return book.journals.countLines(account);
            default: return NONE;
        }
    }

    public int limits(int account, long floor, long ceiling) {
        if (!book.chart.has(account)) {
            return NONE;
        }
        if (floor > ceiling) {
            return BAD;
        }
        long now = book.sumByNow(account);
        if (now < floor || now > ceiling) {
            return STATE;
        }
        book.chart.floor[account] = floor;
        book.chart.ceiling[account] = ceiling;
        return 1;
    }

    public int days(int n) {
        if (n < 1 || n > STEP_MOST || book.day + n >= DAYS) {
            return BAD;
        }
        book.day += n;
        return book.day;
    }

    public int begin() {
        if (book.isOpen) {
            return STATE;
        }
        if (book.journals.isFull()) {
            return FULL;
        }
        book.isOpen = true;
        book.open.size = 0;
        return book.journals.count;
    }

    public int posting(int account, long amount) {
        if (!book.chart.has(account)) {
            return NONE;
        }
        if (amount == 0 || amount < -AMOUNT_MOST || amount > AMOUNT_MOST) {
            return BAD;
        }
        if (!book.isOpen) {
            return STATE;
        }
        if (book.open.size >= POSTINGS) {
            return FULL;
        }
        book.open.add(account, (int) amount);
        return book.open.size;
    }

    public int cancel() {
        if (!book.isOpen) {
            return STATE;
        }
        book.isOpen = false;
        return book.open.size;
    }

    public int post() {
        if (!book.isOpen) {
            return STATE;
        }
        int answer = book.tryToPost(book.open, ABSENT);
        if (answer >= 0) {
            book.isOpen = false;
        }
        return answer;
    }

    public int reverse(int journal) {
        Journals journals = book.journals;
        if (!journals.has(journal)) {
            return NONE;
        }
        if (book.isOpen || !journals.isReversible(journal)) {
            return STATE;
        }
        if (journals.isFull()) {
            return FULL;
        }
        journals.writeReversal(journal, draft);
        return book.tryToPost(draft, journal);
    }

    public int journal(int journal, int what) {
        Journals journals = book.journals;
        if (!journals.has(journal)) {
            return NONE;
        }
        switch (what) {
            case 0: return journals.day[journal];
            case 1: return journals.size[journal];
            case 2: return journals.reverses[journal];
            case 3: return journals.reversedBy[journal];
            default: return NONE;
        }
    }

    public long part(int journal, int i, int what) {
        Journals journals = book.journals;
        if (!journals.has(journal) || i < 0 || i >= journals.size[journal] || !isOneOfTwo(what)) {
            return NO;
        }
        int slot = journal * POSTINGS + i;
        return what == 0 ? journals.account[slot] : journals.amount[slot];
    }

    public int cause(int i, int what) {
        if (i < 0 || !isOneOfTwo(what)) {
            return NONE;
        }
        if (i >= book.causes.count) {
            return ABSENT;
        }
        return what == 0 ? book.causes.which[i] : book.causes.with[i];
    }

    public long balance(int account, int day) {
        if (!book.chart.has(account) || !isDay(day)) {
            return NO;
        }
        return book.journals.sum(account, 0, day);
    }

    public long branch(int account, int currency, int day) {
        if (!book.chart.has(account) || !isCurrency(currency) || !isDay(day)) {
            return NO;
        }
        return book.sumOfBranch(account, currency, 0, day);
    }

    public int close(int period) {
        if (!isPeriod(period)) {
            return NONE;
        }
        // Those that are CLOSED are the first ones, so one number tells both who is and who is next.
        if (period != book.closed || book.day < firstDay(period + 1)) {
            return STATE;
        }
        book.seals[period] = book.journals.sealOver(firstDay(period), lastDay(period));
        book.closed++;
        return book.closed;
    }

    public long seal(int period) {
        if (!isPeriod(period) || period >= book.closed) {
            return NO;
        }
        return book.seals[period];
    }

    public int audit() {
        for (int period = 0; period < PERIODS && period < book.closed; period++) {
            if (book.seals[period] != book.journals.sealOver(firstDay(period), lastDay(period))) {
                return period;
            }
        }
        return ABSENT;
    }

    public int rate(int currency, int day, int above, int below) {
        if (!isCurrency(currency) || currency == 0) {
            return NONE;
        }
        if (!isDay(day) || !isRatePart(above) || !isRatePart(below)) {
            return BAD;
        }
        if (book.isClosedOn(day)) {
            return STATE;
        }
        return book.rates.tell(currency, day, above, below);
    }

    public int rateOf(int currency, int day, int part) {
        if (!isCurrency(currency) || !isOneOfTwo(part)) {
            return NONE;
        }
        if (!isDay(day)) {
            return BAD;
        }
        int held = book.rates.findHeld(currency, day);
        fraction.become(book.rates.aboveAt(held), book.rates.belowAt(held));
        return (int) fraction.half(part);
    }

    public long value(int account, int day, int part) {
        if (!book.chart.has(account) || !isDay(day) || !isOneOfTwo(part)) {
            return NO;
        }
        book.writeValue(account, day, fraction);
        return fraction.half(part);
    }

    public int real(int account, int day, int what) {
        if (!book.chart.has(account) || !isDay(day) || what < 0 || what > 3) {
            return 0;
        }
        book.writeValue(account, day, fraction);
        double real = fraction.quotient();
        switch (what) {
            case 0: return (int) (bitsOfDouble(real) >> 32);
            case 1: return (int) bitsOfDouble(real);
            case 2: return bitsOfFloat((float) real);
            default: return (int) real;
        }
    }

    public long gain(int account, int currency, int from, int to, int part) {
        if (!book.chart.has(account) || !isCurrency(currency) || !isOneOfTwo(part)) {
            return NO;
        }
        if (!isDay(from) || !isDay(to) || to < from) {
            return NO;
        }
        book.writeGain(account, currency, from, to, fraction);
        return fraction.half(part);
    }

    public long line(int account, int i, int what) {
        if (!book.chart.has(account) || what < 0 || what > 3) {
            return NO;
        }
        int lines = book.journals.countLines(account);
        int at = i < 0 ? lines + i : i;
        if (at < 0 || at >= lines) {
            return NO;
        }
        return book.journals.lineAt(account, at, what);
    }

    public long trial(int currency, int day, int side) {
        if (!isCurrency(currency) || !isDay(day) || !isOneOfTwo(side)) {
            return NO;
        }
        long sum = 0;
        for (int account = 0; account < book.chart.count; account++) {
            if (book.chart.currency[account] == currency) {
                long one = book.journals.sum(account, 0, day);
                sum += side == 0 ? Math.max(one, 0L) : Math.min(one, 0L);
            }
        }
        return sum;
    }

    public long sorts(int sort, int currency) {
        if (!isSort(sort) || !isCurrency(currency)) {
            return NO;
        }
        long sum = 0;
        for (int account = 0; account < book.chart.count; account++) {
            if (book.chart.sort[account] == sort && book.chart.currency[account] == currency) {
                sum += book.sumByNow(account);
            }
        }
        return sum;
    }

    public int budget(int account, int period, long v) {
        if (!book.chart.has(account) || !isPeriod(period)) {
            return NONE;
        }
        if (period < book.closed) {
            return STATE;
        }
        book.chart.budget[account * PERIODS + period] = v;
        return 1;
    }

    public long left(int account, int period) {
        Chart chart = book.chart;
        if (!chart.has(account) || !isPeriod(period)) {
            return NO;
        }
        long used = book.sumOfBranch(account, chart.currency[account], firstDay(period), lastDay(period));
        return chart.budget[account * PERIODS + period] - used;
    }

    public int extreme(int currency, int what) {
        if (!isCurrency(currency) || !isOneOfTwo(what)) {
            return NONE;
        }
        int found = ABSENT;
        long most = 0;
        for (int account = 0; account < book.chart.count; account++) {
            if (book.chart.currency[account] == currency) {
                long now = book.sumByNow(account);
                long rank = what == 0 ? now : -now;
                if (found == ABSENT || rank > most) {
                    found = account;
                    most = rank;
                }
            }
        }
        return found;
    }

    public int meet(int one, int other) {
        if (!book.chart.has(one) || !book.chart.has(other)) {
            return NONE;
        }
        return book.chart.findMeeting(one, other);
    }

    public int feed(int letter) {
        if (letter < 1 || letter > LETTER_MOST) {
            return BAD;
        }
        if (tape.length >= TAPE_BYTES) {
            return FULL;
        }
        tape.add(letter);
        return tape.length;
    }

    public int clear() {
        int had = tape.length;
        tape.length = 0;
        return had;
    }

    public int read() {
        int fault = tape.parse(book.chart, draft);
        tape.length = 0;
        if (fault != FAULTLESS) {
            return FAULT_BASE - fault;
        }
        int reversed = tape.reversed;
        if (book.isOpen) {
            return STATE;
        }
        if (reversed != ABSENT && !book.journals.isReversal(reversed, draft, tape.parts)) {
            return STATE;
        }
        if (book.journals.isFull() || tape.parts > POSTINGS) {
            return FULL;
        }
        return book.tryToPost(draft, reversed);
    }

    public int spell(int journal) {
        if (!book.journals.has(journal)) {
            return NONE;
        }
        sheet.write(book.journals, journal);
        return sheet.length;
    }

    public int paper(int i) {
        if (i < 0 || i >= sheet.length) {
            return NONE;
        }
        return sheet.bytes[i];
    }

    public int told(int what) {
        switch (what) {
            case 0: return book.chart.count;
            case 1: return book.journals.count;
            case 2: return book.isOpen ? book.open.size : ABSENT;
            case 3: return book.day;
            case 4: return book.closed;
            case 5: return tape.length;
            case 6: return sheet.length;
            case 7: return book.causes.count;
            case 8: return book.journals.countReversals();
            default: return NONE;
        }
    }

    public int list(int list, int n) {
        if (!isList(list)) {
            return NONE;
        }
        if (n > LIST_PLACES) {
            return BAD;
        }
        if (n < 0) {
            return BELOW;
        }
        rows.make(list, n);
        return 1;
    }

    public int set(int list, int i, long v) {
        if (!isList(list)) {
            return NONE;
        }
        if (!rows.isHeld(list)) {
            return NOTHING;
        }
        if (!rows.hasPlace(list, i)) {
            return BEYOND;
        }
        rows.put(list, i, v);
        return 1;
    }

    public long get(int list, int i) {
        if (!isList(list) || !rows.hasPlace(list, i)) {
            return NO;
        }
        return rows.at(list, i);
    }

    public int lay(int list, int i) {
        if (!isList(list)) {
            return NONE;
        }
        if (!rows.isHeld(list)) {
            return NOTHING;
        }
        for (int account = 0; account < book.chart.count; account++) {
            // A place may be Integer.MAX_VALUE: what goes round is below 0 and no place either.
            if (i < 0 || !rows.hasPlace(list, i + account)) {
                return BEYOND;
            }
            rows.put(list, i + account, book.sumByNow(account));
        }
        return book.chart.count;
    }

    public int judge(int list, int i) {
        if (!isList(list)) {
            return NONE;
        }
        if (!rows.isHeld(list)) {
            return NOTHING;
        }
        for (int account = 0; account < book.chart.count; account++) {
            if (i < 0 || !rows.hasPlace(list, i + account)) {
                return LIST_ENDED + account;
            }
            if (rows.at(list, i + account) != book.sumByNow(account)) {
                return account;
            }
        }
        return ABSENT;
    }

    public int image() {
        if (imaged == null) {
            imaged = new Book();
        }
        imaged.copyFrom(book);
        return book.journals.count;
    }

    public int undo() {
        if (imaged == null) {
            return STATE;
        }
        book.copyFrom(imaged);
        return book.journals.count;
    }

    private static boolean isCurrency(int currency) {
        return currency >= 0 && currency < CURRENCIES;
    }

    private static boolean isSort(int sort) {
        return sort >= 0 && sort < SORTS;
    }

    private static boolean isDay(int day) {
        return day >= 0 && day < DAYS;
    }

    private static boolean isPeriod(int period) {
        return period >= 0 && period < PERIODS;
    }

    private static boolean isRatePart(int number) {
        return number >= 1 && number <= RATE_MOST;
    }

    private static boolean isList(int list) {
        return list >= 0 && list < LISTS;
    }

    private static boolean isOneOfTwo(int which) {
        return which == 0 || which == 1;
    }

    private static int firstDay(int period) {
        return period * PERIOD_DAYS;
    }

    private static int lastDay(int period) {
        return firstDay(period) + PERIOD_DAYS - 1;
    }

    private static long bitsOfDouble(double number) {
        return bitsInForm(number, 52, 1023);
    }

    private static int bitsOfFloat(float number) {
        return (int) bitsInForm(number, 23, 127);
    }

    // The library's own function for this is not among the allowed ones. A VALUE is 0 or between
    // 1e-9 and 1e12, so only ordinary numbers come here, and halving and doubling loses nothing.
    private static long bitsInForm(double number, int width, int bias) {
        if (number == 0) {
            return 0;
        }
        double rest = number < 0 ? -number : number;
        int exponent = bias;
        for (int i = 0; i < bias && rest >= 2; i++) {
            rest = rest / 2;
            exponent++;
        }
        for (int i = 0; i < bias && rest < 1; i++) {
            rest = rest * 2;
            exponent--;
        }
        long above = exponent;
        if (number < 0) {
            // The bit of the sign stands straight above the exponent's bits.
            above += 2L * (bias + 1);
        }
        return (above << width) + (long) ((rest - 1) * (double) (1L << width));
    }

    /** All that THE IMAGE holds. */
    private static final class Book {
        final Chart chart = new Chart();
        final Journals journals = new Journals();
        final Rates rates = new Rates();
        final Causes causes = new Causes();
        final Slip open = new Slip();
        boolean isOpen = false;
        int day = 0;
        int closed = 0;
        final long[] seals = new long[PERIODS];

        void copyFrom(Book other) {
            chart.copyFrom(other.chart);
            journals.copyFrom(other.journals);
            rates.copyFrom(other.rates);
            causes.copyFrom(other.causes);
            open.copyFrom(other.open);
            isOpen = other.isOpen;
            day = other.day;
            closed = other.closed;
            System.arraycopy(other.seals, 0, seals, 0, PERIODS);
        }

        boolean isClosedOn(int someDay) {
            return someDay / PERIOD_DAYS < closed;
        }

        long sumByNow(int account) {
            return journals.sum(account, 0, day);
        }

        long sumOfBranch(int top, int currency, int from, int to) {
            long sum = 0;
            for (int account = top; account < chart.count; account++) {
                if (chart.currency[account] == currency && chart.isInBranch(account, top)) {
                    sum += journals.sum(account, from, to);
                }
            }
            return sum;
        }

        // Nothing here goes round: 600 AMOUNTS come to 6e8 at most, a RATE's part to 999, and what
        // stands below the line to 999 times 999 times 999, which makes 6e17 at most.
        void writeValue(int account, int byDay, Fraction into) {
            into.become(0, 1);
            for (int currency = 0; currency < CURRENCIES; currency++) {
                int held = rates.findHeld(currency, byDay);
                long sum = sumOfBranch(account, currency, 0, byDay);
                into.add(sum * rates.aboveAt(held), rates.belowAt(held));
            }
        }

        void writeGain(int account, int currency, int from, int to, Fraction into) {
            int first = rates.findHeld(currency, from);
            int second = rates.findHeld(currency, to);
            into.become(rates.aboveAt(second), rates.belowAt(second));
            into.add(-rates.aboveAt(first), rates.belowAt(first));
            into.become(into.above * sumOfBranch(account, currency, 0, to), into.below);
        }

        /** Its number as a JOURNAL that is POSTED, or -10 less the first of CAUSES. */
        int tryToPost(Slip slip, int reverses) {
            causes.count = 0;
            if (reverses != ABSENT) {
                causes.add(REFUSED, reverses);
            }
            if (!canBePosted(slip)) {
                return CAUSE_BASE - causes.which[0];
            }
            causes.count = 0;
            return journals.add(slip, day, reverses);
        }

        private boolean canBePosted(Slip slip) {
            if (slip.size < POSTINGS_LEAST) {
                causes.add(TOO_FEW, slip.size);
                return false;
            }
            int currency = findUnbalanced(slip);
            if (currency != ABSENT) {
                causes.add(UNBALANCED, currency);
                return false;
            }
            if (isClosedOn(day)) {
                causes.add(CLOSED, day / PERIOD_DAYS);
                return false;
            }
            return keepsLimits(slip);
        }

        private int findUnbalanced(Slip slip) {
            for (int currency = 0; currency < CURRENCIES; currency++) {
                long sum = 0;
                for (int i = 0; i < slip.size; i++) {
                    if (chart.currency[slip.account[i]] == currency) {
                        sum += slip.amount[i];
                    }
                }
                if (sum != 0) {
                    return currency;
                }
            }
            return ABSENT;
        }

        private boolean keepsLimits(Slip slip) {
            for (int i = 0; i < slip.size; i++) {
                int account = slip.account[i];
                long then = sumByNow(account) + slip.sum(account);
                boolean isBelow = then < chart.floor[account];
                if (isBelow || then > chart.ceiling[account]) {
                    causes.add(BEYOND_LIMITS, account);
                    causes.add(isBelow ? FLOOR : CEILING, account);
                    return false;
                }
            }
            return true;
        }
    }

    /** The accounts, their limits and BUDGETS. A PARENT's number is below its child's: ways up end. */
    private static final class Chart {
        int count = 1;
        final int[] parent = new int[ACCOUNTS];
        final int[] currency = new int[ACCOUNTS];
        final int[] sort = new int[ACCOUNTS];
        final long[] floor = new long[ACCOUNTS];
        final long[] ceiling = new long[ACCOUNTS];
        final long[] budget = new long[ACCOUNTS * PERIODS];

        Chart() {
            parent[0] = ABSENT;
            sort[0] = ABSENT;
            for (int account = 0; account < ACCOUNTS; account++) {
                // No BALANCE is below or above these, so that "none" needs no test of its own.
                floor[account] = Long.MIN_VALUE;
                ceiling[account] = Long.MAX_VALUE;
            }
        }

        void copyFrom(Chart other) {
            count = other.count;
            System.arraycopy(other.parent, 0, parent, 0, ACCOUNTS);
            System.arraycopy(other.currency, 0, currency, 0, ACCOUNTS);
            System.arraycopy(other.sort, 0, sort, 0, ACCOUNTS);
            System.arraycopy(other.floor, 0, floor, 0, ACCOUNTS);
            System.arraycopy(other.ceiling, 0, ceiling, 0, ACCOUNTS);
            System.arraycopy(other.budget, 0, budget, 0, ACCOUNTS * PERIODS);
        }

        boolean has(int account) {
            return account >= 0 && account < count;
        }

        int add(int under, int inCurrency, int ofSort) {
            if (count >= ACCOUNTS) {
                return FULL;
            }
            parent[count] = under;
            currency[count] = inCurrency;
            sort[count] = ofSort;
            count++;
            return count - 1;
        }

        boolean isInBranch(int account, int top) {
            int at = account;
            for (int steps = 0; steps < ACCOUNTS && at > top; steps++) {
                at = parent[at];
            }
            return at == top;
        }

        int countStraightBelow(int top) {
            int found = 0;
            for (int account = 1; account < count; account++) {
                if (parent[account] == top) {
                    found++;
                }
            }
            return found;
        }

        int countBranch(int top) {
            int found = 0;
            for (int account = top; account < count; account++) {
                if (isInBranch(account, top)) {
                    found++;
                }
            }
            return found;
        }

        int countAbove(int account) {
            int steps = 0;
            for (int at = account; steps < ACCOUNTS && at > 0; steps++) {
                at = parent[at];
            }
            return steps;
        }

        int findMeeting(int one, int other) {
            int a = one;
            int b = other;
            for (int steps = 0; steps < 2 * ACCOUNTS && a != b; steps++) {
                // The greater number can't be above the lesser one, so it is the one that goes up.
                if (a > b) {
                    a = parent[a];
                } else {
                    b = parent[b];
                }
            }
            return a;
        }
    }

    /** The POSTINGS of a JOURNAL that isn't POSTED. */
    private static final class Slip {
        int size = 0;
        final int[] account = new int[POSTINGS];
        final int[] amount = new int[POSTINGS];

        void copyFrom(Slip other) {
            size = other.size;
            System.arraycopy(other.account, 0, account, 0, POSTINGS);
            System.arraycopy(other.amount, 0, amount, 0, POSTINGS);
        }

        void add(int ofAccount, int ofAmount) {
            if (size < POSTINGS) {
                account[size] = ofAccount;
                amount[size] = ofAmount;
                size++;
            }
        }

        long sum(int ofAccount) {
            long sum = 0;
            for (int i = 0; i < size; i++) {
                if (account[i] == ofAccount) {
                    sum += amount[i];
                }
            }
            return sum;
        }
    }

    /** The JOURNALS that are POSTED; POSTING i of JOURNAL j has the slot j * POSTINGS + i. */
    private static final class Journals {
        int count = 0;
        final int[] day = new int[JOURNALS];
        final int[] size = new int[JOURNALS];
        final int[] reverses = new int[JOURNALS];
        final int[] reversedBy = new int[JOURNALS];
        final int[] account = new int[JOURNALS * POSTINGS];
        final int[] amount = new int[JOURNALS * POSTINGS];

        void copyFrom(Journals other) {
            count = other.count;
            System.arraycopy(other.day, 0, day, 0, JOURNALS);
            System.arraycopy(other.size, 0, size, 0, JOURNALS);
            System.arraycopy(other.reverses, 0, reverses, 0, JOURNALS);
            System.arraycopy(other.reversedBy, 0, reversedBy, 0, JOURNALS);
            System.arraycopy(other.account, 0, account, 0, JOURNALS * POSTINGS);
            System.arraycopy(other.amount, 0, amount, 0, JOURNALS * POSTINGS);
        }

        boolean has(int journal) {
            return journal >= 0 && journal < count;
        }

        boolean isFull() {
            return count >= JOURNALS;
        }

        int add(Slip slip, int onDay, int reversed) {
            if (isFull()) {
                return FULL;
            }
            int journal = count;
            day[journal] = onDay;
            size[journal] = slip.size;
            reverses[journal] = reversed;
            reversedBy[journal] = ABSENT;
            if (has(reversed)) {
                reversedBy[reversed] = journal;
            }
            System.arraycopy(slip.account, 0, account, journal * POSTINGS, slip.size);
            System.arraycopy(slip.amount, 0, amount, journal * POSTINGS, slip.size);
            count++;
            return journal;
        }

        boolean isReversible(int journal) {
            return has(journal) && reverses[journal] == ABSENT && reversedBy[journal] == ABSENT;
        }

        void writeReversal(int journal, Slip into) {
            into.size = 0;
            for (int i = 0; i < size[journal]; i++) {
                int slot = journal * POSTINGS + i;
                into.add(account[slot], -amount[slot]);
            }
        }

        /** A slip holds no more than ten of the parts that a text has: their count comes beside it. */
        boolean isReversal(int journal, Slip slip, int parts) {
            if (!isReversible(journal) || parts != size[journal]) {
                return false;
            }
            for (int i = 0; i < slip.size; i++) {
                int slot = journal * POSTINGS + i;
                if (slip.account[i] != account[slot] || slip.amount[i] != -amount[slot]) {
                    return false;
                }
            }
            return true;
        }

        int countReversals() {
            int found = 0;
            for (int journal = 0; journal < count; journal++) {
                if (reverses[journal] != ABSENT) {
                    found++;
                }
            }
            return found;
        }

        long sum(int ofAccount, int from, int to) {
            long sum = 0;
            for (int journal = 0; journal < count; journal++) {
                if (day[journal] >= from && day[journal] <= to) {
                    sum += sumIn(journal, ofAccount);
                }
            }
            return sum;
        }

        private long sumIn(int journal, int ofAccount) {
            long sum = 0;
            int first = journal * POSTINGS;
            for (int slot = first; slot < first + size[journal]; slot++) {
                if (account[slot] == ofAccount) {
                    sum += amount[slot];
                }
            }
            return sum;
        }

        long sealOver(int from, int to) {
            long seal = 17;
            for (int journal = 0; journal < count; journal++) {
                if (day[journal] >= from && day[journal] <= to) {
                    seal = sealWith(seal, journal);
                }
            }
            return seal;
        }

        private long sealWith(long before, int journal) {
            long seal = before;
            int first = journal * POSTINGS;
            for (int slot = first; slot < first + size[journal]; slot++) {
                seal = 31 * seal + account[slot];
                seal = 31 * seal + amount[slot];
            }
            return seal;
        }

        int countLines(int ofAccount) {
            int lines = 0;
            for (int slot = 0; slot < count * POSTINGS; slot++) {
                if (isLine(slot, ofAccount)) {
                    lines++;
                }
            }
            return lines;
        }

        long lineAt(int ofAccount, int at, int what) {
            int lines = 0;
            long sum = 0;
            for (int slot = 0; slot < count * POSTINGS; slot++) {
                if (isLine(slot, ofAccount)) {
                    sum += amount[slot];
                    if (lines == at) {
                        return lineOf(slot, sum, what);
                    }
                    lines++;
                }
            }
            return NO;
        }

        private boolean isLine(int slot, int ofAccount) {
            return slot % POSTINGS < size[slot / POSTINGS] && account[slot] == ofAccount;
        }

        private long lineOf(int slot, long sum, int what) {
            switch (what) {
                case 0: return day[slot / POSTINGS];
                case 1: return slot / POSTINGS;
                case 2: return amount[slot];
                default: return sum;
            }
        }
    }

    /** The RATES that are told; RATE i of a CURRENCY has the slot currency * RATES + i. */
    private static final class Rates {
        final int[] count = new int[CURRENCIES];
        final int[] day = new int[CURRENCIES * RATES];
        final int[] above = new int[CURRENCIES * RATES];
        final int[] below = new int[CURRENCIES * RATES];

        void copyFrom(Rates other) {
            System.arraycopy(other.count, 0, count, 0, CURRENCIES);
            System.arraycopy(other.day, 0, day, 0, CURRENCIES * RATES);
            System.arraycopy(other.above, 0, above, 0, CURRENCIES * RATES);
            System.arraycopy(other.below, 0, below, 0, CURRENCIES * RATES);
        }

        int tell(int currency, int onDay, int toAbove, int toBelow) {
            int slot = findHeld(currency, onDay);
            if (slot == ABSENT || day[slot] != onDay) {
                if (count[currency] >= RATES) {
                    return FULL;
                }
                slot = currency * RATES + count[currency];
                day[slot] = onDay;
                count[currency]++;
            }
            above[slot] = toAbove;
            below[slot] = toBelow;
            return count[currency];
        }

        int findHeld(int currency, int byDay) {
            int found = ABSENT;
            int first = currency * RATES;
            for (int slot = first; slot < first + count[currency]; slot++) {
                if (day[slot] <= byDay && (found == ABSENT || day[slot] > day[found])) {
                    found = slot;
                }
            }
            return found;
        }

        long aboveAt(int slot) {
            return slot == ABSENT ? 1 : above[slot];
        }

        long belowAt(int slot) {
            return slot == ABSENT ? 1 : below[slot];
        }
    }

    /** At most three: REFUSED, BEYOND LIMITS, and FLOOR or CEILING. */
    private static final class Causes {
        int count = 0;
        final int[] which = new int[CAUSES];
        final int[] with = new int[CAUSES];

        void copyFrom(Causes other) {
            count = other.count;
            System.arraycopy(other.which, 0, which, 0, CAUSES);
            System.arraycopy(other.with, 0, with, 0, CAUSES);
        }

        void add(int failure, int number) {
            if (count < CAUSES) {
                which[count] = failure;
                with[count] = number;
                count++;
            }
        }
    }

    /** Always in lowest terms, and above 0 below the line. */
    private static final class Fraction {
        long above = 0;
        long below = 1;

        void become(long newAbove, long newBelow) {
            above = newAbove;
            below = newBelow;
            long divisor = commonDivisor(Math.abs(newAbove), newBelow);
            if (divisor > 1) {
                above = newAbove / divisor;
                below = newBelow / divisor;
            }
        }

        void add(long otherAbove, long otherBelow) {
            become(above * otherBelow + otherAbove * below, below * otherBelow);
        }

        long half(int part) {
            return part == 0 ? above : below;
        }

        double quotient() {
            return below == 0 ? 0 : (double) above / (double) below;
        }

        // Euclid's way takes 92 steps at most with longs.
        private static long commonDivisor(long one, long other) {
            long greater = one;
            long lesser = other;
            for (int steps = 0; steps < 100 && lesser != 0; steps++) {
                long rest = greater % lesser;
                greater = lesser;
                lesser = rest;
            }
            return greater;
        }
    }

    /** THE TAPE, and what its text tells once it is parsed. */
    private static final class Tape {
        int length = 0;
        int parts = 0;
        int reversed = ABSENT;
        private int place = 0;
        private final byte[] bytes = new byte[TAPE_BYTES];

        void add(int letter) {
            if (length < TAPE_BYTES) {
                bytes[length] = (byte) letter;
                length++;
            }
        }

        /** The FAULT, or FAULTLESS; the slip takes the first ten parts. */
        int parse(Chart chart, Slip into) {
            place = 0;
            parts = 0;
            reversed = ABSENT;
            into.size = 0;
            for (int i = 0; i <= TAPE_BYTES; i++) {
                int fault = takePart(chart, into);
                if (fault != FAULTLESS) {
                    return fault;
                }
                if (place >= length) {
                    return parts >= POSTINGS_LEAST ? FAULTLESS : length;
                }
                // A blank makes this part the last one, which the first can't be.
                if (here() == ' ' && parts >= POSTINGS_LEAST) {
                    return takeReversed();
                }
                if (here() != ';') {
                    return place;
                }
                place++;
            }
            return place;
        }

        private int takePart(Chart chart, Slip into) {
            int first = place;
            int account = takeFigures(ACCOUNT_FIGURES);
            if (place == first) {
                return place;
            }
            if (!chart.has(account)) {
                return first;
            }
            if (here() != ' ') {
                return place;
            }
            place++;
            boolean isMinus = here() == '-';
            if (isMinus) {
                place++;
            }
            first = place;
            int amount = takeFigures(AMOUNT_FIGURES);
            if (place == first) {
                return place;
            }
            if (amount < 1 || amount > AMOUNT_MOST) {
                return first;
            }
            into.add(account, isMinus ? -amount : amount);
            parts++;
            return FAULTLESS;
        }

        private int takeReversed() {
            for (int i = 0; i < REVERSED_MARK.length(); i++) {
                if (here() != REVERSED_MARK.charAt(i)) {
                    return place;
                }
                place++;
            }
            int first = place;
            int journal = takeFigures(REVERSED_FIGURES);
            if (place == first || place < length) {
                return place;
            }
            reversed = journal;
            return FAULTLESS;
        }

        private int takeFigures(int most) {
            int number = 0;
            for (int i = 0; i < most && here() >= '0' && here() <= '9'; i++) {
                number = number * 10 + here() - '0';
                place++;
            }
            return number;
        }

        /** No byte is 0, so 0 stands for the end. */
        private int here() {
            return place >= 0 && place < length && place < TAPE_BYTES ? bytes[place] : 0;
        }
    }

    /** THE PAPER. */
    private static final class Sheet {
        int length = 0;
        final byte[] bytes = new byte[PAPER_BYTES];

        void write(Journals journals, int journal) {
            length = 0;
            for (int i = 0; i < journals.size[journal]; i++) {
                int slot = journal * POSTINGS + i;
                if (i > 0) {
                    add(';');
                }
                addNumber(journals.account[slot]);
                add(' ');
                addNumber(journals.amount[slot]);
            }
            if (journals.reverses[journal] != ABSENT) {
                for (int i = 0; i < REVERSED_MARK.length(); i++) {
                    add(REVERSED_MARK.charAt(i));
                }
                addNumber(journals.reverses[journal]);
            }
        }

        private void addNumber(int number) {
            if (number < 0) {
                add('-');
            }
            int rest = Math.abs(number);
            int unit = 1;
            for (int figures = 1; figures < AMOUNT_FIGURES && rest / unit >= 10; figures++) {
                unit *= 10;
            }
            for (int figures = 0; figures < AMOUNT_FIGURES && unit > 0; figures++) {
                add('0' + rest / unit % 10);
                unit /= 10;
            }
        }

        private void add(int letter) {
            if (length < PAPER_BYTES) {
                bytes[length] = (byte) letter;
                length++;
            }
        }
    }

    /** The LISTS; place i of a LIST has the slot list * LIST_PLACES + i. */
    private static final class Rows {
        private final int[] size = new int[LISTS];
        private final long[] places = new long[LISTS * LIST_PLACES];

        Rows() {
            for (int list = 0; list < LISTS; list++) {
                size[list] = ABSENT;
            }
        }

        void make(int list, int n) {
            size[list] = n;
            for (int i = 0; i < n; i++) {
                places[list * LIST_PLACES + i] = 0;
            }
        }

        boolean isHeld(int list) {
            return size[list] != ABSENT;
        }

        boolean hasPlace(int list, int i) {
            return i >= 0 && i < size[list];
        }

        void put(int list, int i, long v) {
            places[list * LIST_PLACES + i] = v;
        }

        long at(int list, int i) {
            return places[list * LIST_PLACES + i];
        }
    }
}
