import java.lang.reflect.InvocationTargetException;
import java.lang.reflect.Method;
import java.util.ArrayList;
import java.util.List;
import java.util.Random;

/** Runs of up to 512 calls, the same ones in every run of this test, on the class and on LedgerModel. */
public final class ModelTest {
    private static final int RUNS = 3000;
    private static final int CALLS = 512;
    private static final int[] WILD = {Integer.MIN_VALUE, Integer.MAX_VALUE, -1, 1000, 30, 10, 4, 60, Integer.MAX_VALUE - 3, -2};
    private static final long[] WILD_LONG = {Long.MIN_VALUE, Long.MAX_VALUE, 0, 1000001, -1000001, 1L << 32, 1000000, -1000000};
    private static final int TEXTS = 0, MANY_JOURNALS = 1, MANY_RATES = 2, MOODS = 5;
    private static final Method[] FACE = face();

    private final Random random;
    private final DoubleLedger ledger = new DoubleLedger();
    private final LedgerModel model = new LedgerModel();
    private final List<String> calls = new ArrayList<>();
    private final int daring;
    private final int mood;

    private ModelTest(long seed) {
        random = new Random(seed);
        daring = random.nextInt(4) == 0 ? 4 : 25;
        mood = (int) (seed % MOODS);
    }

    public static void main(String[] args) {
        long total = 0;
        for (int seed = 0; seed < RUNS; seed++) {
            ModelTest run = new ModelTest(seed);
            if (!run.go()) {
                System.out.println("ModelTest: run " + seed + " went another way");
                System.exit(1);
            }
            total += run.calls.size();
        }
        System.out.println("ModelTest: " + total + " answers looked at, 0 wrong");
    }

    private static Method[] face() {
        List<Method> found = new ArrayList<>();
        for (Method m : DoubleLedger.class.getDeclaredMethods()) {
            if (java.lang.reflect.Modifier.isPublic(m.getModifiers())) {
                found.add(m);
            }
        }
        found.sort((a, b) -> a.getName().compareTo(b.getName()));
        return found.toArray(new Method[0]);
    }

    private boolean go() {
        int accounts = random.nextInt(mood == MANY_RATES ? 33 : 12);
        for (int i = 0; i < accounts; i++) {
            if (!call("account", pick(i + 1), pick(1 + random.nextInt(4)), pick(4))) {
                return false;
            }
        }
        while (calls.size() < CALLS) {
            if (!step()) {
                return false;
            }
        }
        return true;
    }

    private boolean step() {
        int kind = random.nextInt(100);
        if (kind < (mood == MANY_JOURNALS ? 25 : 10)) {
            return journal();
        }
        if (kind < 35) {
            return random.nextInt(20) >= (mood == TEXTS ? 5 : 1) || text();
        }
        if (kind < 42) {
            return call("reverse", someJournal());
        }
        if (kind < 45) {
            return call("days", pick(random.nextInt(3) == 0 ? 101 : 12));
        }
        if (kind < 46) {
            return call("close", model.told(4));
        }
        if (kind < 55 && mood == MANY_RATES) {
            return call("rate", 1 + pick(2), pickOrWild(1000), ratePart(), ratePart());
        }
        Method m = FACE[random.nextInt(FACE.length)];
        boolean isRare = m.getName().equals("undo") || m.getName().equals("image") || m.getName().equals("clear");
        return isRare && random.nextInt(mood == MANY_JOURNALS ? 20 : 3) != 0 || any(m);
    }

    /** An ordinary journal: pairs that balance, now and then with one amount changed. */
    private boolean journal() {
        if (!call("begin")) {
            return false;
        }
        int most = mood == MANY_JOURNALS ? 2 : 3;
        for (int pairs = 1 + random.nextInt(most) * random.nextInt(most); pairs > 0; pairs--) {
            int one = someAccount();
            int other = partner(one);
            long amount = someAmount();
            if (!call("posting", one, amount) || !call("posting", other, random.nextInt(15) == 0 ? amount : -amount)) {
                return false;
            }
        }
        return call("post") && (random.nextInt(3) == 0 || model.told(2) < 0 || call("cancel"));
    }

    private boolean text() {
        String text = someText();
        if (random.nextInt(4) == 0 && !text.isEmpty()) {
            int at = random.nextInt(text.length());
            String letters = "0123456789 -;REV\u0001\u007f";
            char letter = letters.charAt(random.nextInt(letters.length()));
            String rest = text.substring(random.nextBoolean() ? at : at + 1);
            text = random.nextInt(3) == 0 ? text.substring(0, at) : text.substring(0, at) + letter + rest;
        }
        for (int i = 0; i < text.length(); i++) {
            if (!call("feed", (int) text.charAt(i))) {
                return false;
            }
        }
        return call("read");
    }

    private String someText() {
        int journals = model.told(1);
        if (journals > 0 && random.nextInt(3) == 0) {
            return turned(model.spelled(random.nextInt(journals)), random.nextInt(8) == 0 ? random.nextInt(100) : -1);
        }
        StringBuilder text = new StringBuilder();
        int pairs = random.nextInt(8) == 0 ? 1 + random.nextInt(11) : 1;
        for (int i = 0; i < pairs; i++) {
            int one = someAccount();
            int amount = random.nextInt(6) == 0 ? 1 + random.nextInt(1000000) : 1 + random.nextInt(9);
            text.append(i > 0 ? ";" : "").append(one).append(' ').append(amount);
            text.append(';').append(partner(one)).append(" -").append(random.nextInt(9) == 0 ? "0" : "").append(amount);
        }
        return text.toString();
    }

    /** The text of a journal's REVERSAL; it names the first journal that is spelled so. */
    private String turned(String spelled, int named) {
        int number = named;
        for (int j = 0; number < 0 && j < model.told(1); j++) {
            number = model.spelled(j).equals(spelled) && model.journal(j, 3) < 0 ? j : -1;
        }
        StringBuilder text = new StringBuilder();
        for (String part : spelled.split(" REV")[0].split(";")) {
            String[] halves = part.split(" ");
            text.append(text.length() > 0 ? ";" : "").append(halves[0]).append(' ').append(-Integer.parseInt(halves[1]));
        }
        return text.append(" REV").append(Math.max(number, 0)).toString();
    }

    private int someAccount() {
        return random.nextInt(model.told(0));
    }

    /** An account in the same currency, if there is another one. */
    private int partner(int account) {
        for (int tries = 0; tries < 20; tries++) {
            int other = someAccount();
            if (other != account && model.of(other, 1) == model.of(account, 1)) {
                return other;
            }
        }
        return account;
    }

    private int someJournal() {
        return random.nextInt(model.told(1) + 1);
    }

    private long someAmount() {
        int size = random.nextInt(4);
        long amount = 1 + random.nextInt(size == 0 ? 1000000 : size == 1 ? 1000 : 20);
        return random.nextBoolean() ? amount : -amount;
    }

    private int pick(int count) {
        return random.nextInt(count);
    }

    private int pickOrWild(int count) {
        if (random.nextInt(daring) == 0) {
            return random.nextBoolean() ? count : WILD[random.nextInt(WILD.length)];
        }
        return pick(count);
    }

    private long longOrWild() {
        return random.nextInt(daring) == 0 ? WILD_LONG[random.nextInt(WILD_LONG.length)] : someAmount();
    }

    private int someDay() {
        int now = model.told(3);
        return random.nextInt(3) == 0 ? pickOrWild(1000) : random.nextInt(4) == 0 ? pickOrWild(now + 10) : now;
    }

    private boolean any(Method m) {
        int accounts = model.told(0);
        switch (m.getName()) {
            case "account": return call("account", pickOrWild(accounts), pickOrWild(4), pickOrWild(4));
            case "of": return call("of", pickOrWild(accounts), pickOrWild(7));
            case "limits": return anyLimits();
            case "days": return call("days", random.nextInt(5) == 0 ? WILD[pick(WILD.length)] : 1 + pick(3));
            case "posting": return call("posting", pickOrWild(accounts), longOrWild());
            case "reverse": case "spell": return call(m.getName(), pickOrWild(model.told(1) + 1));
            case "journal": return call("journal", pickOrWild(model.told(1) + 1), pickOrWild(4));
            case "part": return call("part", pickOrWild(model.told(1) + 1), pickOrWild(5), pickOrWild(2));
            case "cause": return call("cause", pickOrWild(4), pickOrWild(2));
            case "balance": return call("balance", pickOrWild(accounts), someDay());
            case "branch": return call("branch", pickOrWild(accounts), pickOrWild(4), someDay());
            case "close": case "seal": return call(m.getName(), pickOrWild(10));
            case "rate": return call("rate", pickOrWild(4), someDay(), ratePart(), ratePart());
            case "rateOf": return call("rateOf", pickOrWild(4), someDay(), pickOrWild(2));
            case "value": return call("value", pickOrWild(accounts), someDay(), pickOrWild(2));
            case "real": return call("real", pickOrWild(accounts), someDay(), pickOrWild(4));
            case "gain": return call("gain", pickOrWild(accounts), pickOrWild(4), pickOrWild(300), someDay(), pickOrWild(2));
            case "line": return call("line", pickOrWild(accounts), pickOrWild(9) - pick(9), pickOrWild(4));
            case "trial": return call("trial", pickOrWild(4), someDay(), pickOrWild(2));
            case "sorts": return call("sorts", pickOrWild(4), pickOrWild(4));
            case "budget": return call("budget", pickOrWild(accounts), pickOrWild(10), longOrWild());
            case "left": return call("left", pickOrWild(accounts), pickOrWild(10));
            case "extreme": return call("extreme", pickOrWild(4), pickOrWild(2));
            case "meet": return call("meet", pickOrWild(accounts), pickOrWild(accounts));
            case "feed": return call("feed", random.nextInt(3) == 0 ? pickOrWild(128) : 48 + pick(12));
            case "paper": return call("paper", pickOrWild(Math.max(1, model.told(6))));
            case "told": return call("told", pickOrWild(9));
            case "list": return call("list", pickOrWild(4), pickOrWild(41));
            case "set": return call("set", pickOrWild(4), pickOrWild(12), longOrWild());
            case "get": case "lay": case "judge": return call(m.getName(), pickOrWild(4), pickOrWild(12));
            default: return call(m.getName());
        }
    }

    private boolean anyLimits() {
        int account = pickOrWild(model.told(0));
        long now = model.balance(account, 999);
        long floor = random.nextInt(4) == 0 ? longOrWild() : now - pick(30);
        long ceiling = random.nextInt(4) == 0 ? longOrWild() : now + pick(30);
        if (random.nextInt(3) == 0) {
            floor = Long.MIN_VALUE;
        }
        return call("limits", account, floor, random.nextInt(3) == 0 ? Long.MAX_VALUE : ceiling);
    }

    private int ratePart() {
        return random.nextInt(daring) == 0 ? WILD[pick(WILD.length)] : 1 + pick(random.nextBoolean() ? 999 : 6);
    }

    private boolean call(String name, Object... given) {
        if (calls.size() >= CALLS) {
            return true;
        }
        Method of = null;
        for (Method m : FACE) {
            of = m.getName().equals(name) ? m : of;
        }
        Object[] args = given.clone();
        for (int i = 0; i < args.length; i++) {
            boolean isLong = of.getParameterTypes()[i] == long.class;
            args[i] = isLong ? (Object) ((Number) args[i]).longValue() : (Object) ((Number) args[i]).intValue();
        }
        try {
            Method other = LedgerModel.class.getDeclaredMethod(name, of.getParameterTypes());
            Object got = of.invoke(ledger, args);
            Object due = other.invoke(model, args);
            calls.add(name + java.util.Arrays.toString(args) + " answered " + got + ", due is " + due);
            if (!got.equals(due)) {
                calls.forEach(System.out::println);
                return false;
            }
            return true;
        } catch (InvocationTargetException e) {
            calls.forEach(System.out::println);
            System.out.println(name + java.util.Arrays.toString(args) + " threw " + e.getCause());
            return false;
        } catch (ReflectiveOperationException e) {
            System.out.println(name + ": " + e);
            return false;
        }
    }
}
