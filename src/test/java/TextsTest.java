/** Promises 31 to 35: feed, clear, read, spell, paper. */
public final class TextsTest {
    private static final Due DUE = new Due("TextsTest");

    public static void main(String[] args) {
        feed();
        clear();
        faults();
        numbers();
        read();
        readReversals();
        readManyParts();
        readRefused();
        spell();
        spellTheLongest();
        DUE.end();
    }

    private static void feed() {
        DoubleLedger x = new DoubleLedger();
        int[] bad = {0, 128, -1, Integer.MAX_VALUE, Integer.MIN_VALUE, 256 + 49};
        for (int letter : bad) {
            DUE.is("31: feed(" + letter + ")", x.feed(letter), -2);
        }
        for (int i = 1; i <= 90; i++) {
            DUE.is("31: feed", x.feed(i % 2 == 0 ? 1 : 127), i);
        }
        DUE.is("31: FULL", x.feed(49), -4);
        DUE.is("31: BAD first", x.feed(0), -2);
        DUE.is("31: ninety", x.told(5), 90);
        DUE.is("33: read", x.read(), -100);
        DUE.is("31: empty behind read()", x.told(5), 0);
        DUE.is("31: feed", x.feed(49), 1);
    }

    private static void clear() {
        DoubleLedger x = Due.small();
        DUE.is("32: empty", x.clear(), 0);
        Due.feed(x, "1 5;2");
        DUE.is("32: five", x.clear(), 5);
        DUE.is("32: empty", x.clear(), 0);
        DUE.is("32: told", x.told(5), 0);
        DUE.is("33: nothing of it is left", Due.read(x, "1 5;2 -5"), 0);
    }

    private static void isFault(String text, int fault) {
        DoubleLedger x = Due.small();
        DUE.is("33: read \"" + text + "\"", Due.read(x, text), -100 - fault);
        DUE.is("33: nothing done by \"" + text + "\"", x.told(1), 0);
        DUE.is("33: THE TAPE behind \"" + text + "\"", x.told(5), 0);
    }

    private static void faults() {
        String whole = "1 5;2 -5 REV12";
        for (int length = 0; length < whole.length() - 1; length++) {
            if (length != 8) {
                isFault(whole.substring(0, length), length);
            }
        }
        isFault(" 1 5;2 -5", 0);
        isFault("-1 5;2 -5", 0);
        isFault("1  5;2 -5", 2);
        isFault("1 5,2 -5", 3);
        isFault("1 5;;2 -5", 4);
        isFault("1 5; 2 -5", 4);
        isFault("1 +5;2 -5", 2);
        isFault("1 --5;2 -5", 3);
        isFault("1 5;2 -5;", 9);
        isFault("1;2", 1);
        isFault("1 5 REV0", 3);
        isFault("1 5 ;2 -5", 3);
        isFault("1 5;2 -5 rev0", 9);
        isFault("1 5;2 -5 REX0", 11);
        isFault("1 5;2 -5 REV 0", 12);
        isFault("1 5;2 -5 REV-1", 12);
        isFault("1 5;2 -5  REV0", 9);
        isFault("1 5;2 -5 REV123", 14);
        isFault("1 5;2 -5 REV1;1 5", 13);
        isFault("1 5;2 -5 REV1 ", 13);
        isFault("1 5;2 -5\n", 8);
    }

    private static void numbers() {
        isFault("5 5;2 -5", 0);
        isFault("5", 0);
        isFault("5x", 0);
        isFault("55x", 0);
        isFault("1 5;31 -5", 4);
        isFault("1 5;99x", 4);
        isFault("010 5;2 -5", 2);
        isFault("123 5", 0);
        isFault("1 0;2 -5", 2);
        isFault("1 0", 2);
        isFault("1 -0x", 3);
        isFault("1 0000000;2 -5", 2);
        isFault("1 1000001;2 -5", 2);
        isFault("1 9999999x", 2);
        isFault("1 -1000001;2 -5", 3);
        isFault("1 10000000;2 -5", 9);
        isFault("1 00000001;2 -5", 2);
        isFault("1 00000011;2 -5", 9);
        DoubleLedger x = Due.small();
        DUE.is("33: figures 0", Due.read(x, "01 0000005;02 -05"), 0);
        DUE.is("33: the most", Due.read(x, "1 1000000;2 -1000000"), 1);
        DUE.is("33: REV00", Due.read(x, "1 -5;2 5 REV00"), 2);
        for (int i = 5; i < 30; i++) {
            x.account(0, 0, 0);
        }
        DUE.is("33: two figures", Due.read(x, "29 5;2 -5"), 3);
        DUE.is("33: beyond the last", Due.read(x, "29 5;30 -5"), -105);
        DUE.is("33: three figures", Due.read(x, "123 5"), -102);
    }

    private static void read() {
        DoubleLedger x = Due.small();
        x.days(9);
        DUE.is("33: posted", Due.read(x, "1 5;2 -3;2 -2;3 7;4 -7"), 0);
        long[][] parts = {{1, 5}, {2, -3}, {2, -2}, {3, 7}, {4, -7}};
        for (int i = 0; i < 5; i++) {
            DUE.is("33: account", x.part(0, i, 0), parts[i][0]);
            DUE.is("33: amount", x.part(0, i, 1), parts[i][1]);
        }
        DUE.is("33: POSTINGS", x.journal(0, 1), 5);
        DUE.is("33: DAY", x.journal(0, 0), 9);
        DUE.is("33: no REVERSAL", x.journal(0, 2), -5);
        DUE.is("33: nothing is OPEN", x.told(2), -5);
        x.begin();
        x.posting(1, 3);
        DUE.is("33: one is OPEN", Due.read(x, "1 5;2 -5"), -3);
        DUE.is("33: empty THE TAPE", x.told(5), 0);
        DUE.is("33: a FAULT comes first", Due.read(x, "1 5;2 -5;"), -109);
        DUE.is("33: STATE ahead of FULL", Due.read(x, "1 1;1 1;1 1;1 1;1 1;1 1;1 1;1 1;1 1;1 1;1 1"), -3);
        DUE.is("33: the OPEN one is as it was", x.told(2), 1);
        x.posting(2, -3);
        DUE.is("33: the OPEN one is as it was", x.post(), 1);
        DUE.is("33: the OPEN one is as it was", x.part(1, 0, 1), 3);
    }

    private static void readReversals() {
        DoubleLedger x = Due.small();
        Due.read(x, "1 5;2 -3;2 -2");
        Due.read(x, "1 5;2 -5");
        String[] cannot = {
            "1 -5;2 3;2 2 REV1", "1 -5;2 5 REV0", "1 5;2 -3;2 -2 REV0", "1 -5;2 2;2 3 REV0", "1 -5;2 3;2 2 REV2",
            "1 -5;2 3;2 2 REV99", "1 -5;2 3;0 2 REV0", "0 -5;2 3;2 2 REV0", "1 -4;2 3;2 2 REV0", "1 -5;2 3;2 1 REV0", "1 -5;2 3;2 1;2 1 REV0",
            "1 -1;2 1;1 -1;2 1;1 -1;2 1;1 -1;2 1;1 -1;2 1;1 -1;2 1 REV0",
        };
        for (String text : cannot) {
            DUE.is("33: " + text, Due.read(x, text), -3);
        }
        DUE.is("33: none was POSTED", x.told(1), 2);
        DUE.is("33: REV", Due.read(x, "1 -5;2 3;2 2 REV0"), 2);
        DUE.is("33: it REVERSES", x.journal(2, 2), 0);
        DUE.is("33: it is REVERSED", x.journal(0, 3), 2);
        DUE.is("33: again", Due.read(x, "1 -5;2 3;2 2 REV0"), -3);
        DUE.is("33: a REVERSAL", Due.read(x, "1 5;2 -3;2 -2 REV2"), -3);
        DUE.is("33: without REV it is no REVERSAL", Due.read(x, "1 -5;2 5"), 3);
        DUE.is("33: without REV it is no REVERSAL", x.journal(1, 3), -5);
        DUE.is("33: so it may be", x.reverse(1), 4);
        DUE.is("36: REVERSALS", x.told(8), 2);
    }

    private static void readManyParts() {
        DoubleLedger x = Due.small();
        DUE.is("33: ten parts", Due.read(x, "1 1;2 -1;1 1;2 -1;1 1;2 -1;1 1;2 -1;1 1;2 -1"), 0);
        DUE.is("33: ten POSTINGS", x.journal(0, 1), 10);
        DUE.is("33: eleven parts", Due.read(x, "1 1;2 -1;1 1;2 -1;1 1;2 -1;1 1;2 -1;1 1;2 -1;1 1"), -4);
        DUE.is("33: twenty-two", Due.read(x, "1 1;1 1;1 1;1 1;1 1;1 1;1 1;1 1;1 1;1 1;1 1;1 1;1 1;1 1;1 1;1 1;1 1;1 1;1 1;1 1;1 1;1 1"), -4);
        DUE.is("33: ninety bytes", Due.read(x, "1 1;1 1;1 1;1 1;1 1;1 1;1 1;1 1;1 1;1 1;1 1;1 1;1 1;1 1;1 1;1 1;1 1;1 1;1 1;1 1;1 1;1 111"), -4);
        DUE.is("33: a FAULT behind ten parts", Due.read(x, "1 1;2 -1;1 1;2 -1;1 1;2 -1;1 1;2 -1;1 1;2 -1;1 1;9 1"), -149);
        DUE.is("33: one is POSTED", x.told(1), 1);
        DUE.is("33: ten parts reversed", Due.read(x, "1 -1;2 1;1 -1;2 1;1 -1;2 1;1 -1;2 1;1 -1;2 1 REV0"), 1);
    }

    private static void readRefused() {
        DoubleLedger x = Due.small();
        DUE.is("33: UNBALANCED", Due.read(x, "1 5;4 -5"), -11);
        DUE.isText("33: why", Due.causes(x), "1 0");
        DUE.is("33: it is given up", x.told(2), -5);
        DUE.is("33: UNBALANCED", Due.read(x, "1 5;4 -5;2 -5"), -11);
        DUE.isText("33: why", Due.causes(x), "1 1");
        x.limits(1, -4, 10);
        DUE.is("33: FLOOR", Due.read(x, "2 5;1 -5"), -14);
        DUE.isText("33: why", Due.causes(x), "4 1,5 1");
        DUE.is("33: posted", Due.read(x, "1 10;2 -10"), 0);
        DUE.is("33: posted", Due.read(x, "1 -5;2 5"), 1);
        DUE.is("33: REFUSED", Due.read(x, "1 -10;2 10 REV0"), -17);
        DUE.isText("33: why", Due.causes(x), "7 0,4 1,5 1");
        DUE.is("33: not REVERSED", x.journal(0, 3), -5);
        DUE.is("33: posted", x.told(1), 2);
        DUE.is("33: posted", Due.read(x, "1 5;2 -5 REV1"), 2);
        DUE.isText("33: no causes", Due.causes(x), "");
    }

    private static void spell() {
        DoubleLedger x = Due.small();
        DUE.is("34: none", x.spell(0), -1);
        DUE.is("35: nothing", x.paper(0), -1);
        Due.read(x, "01 0000120;02 -000020;2 -100");
        x.reverse(0);
        Due.post(x, 0, 1000000, 0, -1000000);
        DUE.is("34: how many", x.spell(0), 18);
        DUE.isText("34: spelled", Due.paper(x), "1 120;2 -20;2 -100");
        DUE.is("34: how many", x.spell(1), 22);
        DUE.isText("34: spelled", Due.paper(x), "1 -120;2 20;2 100 REV0");
        DUE.is("34: NONE leaves it", x.spell(3), -1);
        DUE.is("34: NONE leaves it", x.spell(-1), -1);
        DUE.is("36: bytes", x.told(6), 22);
        DUE.is("35: the first", x.paper(0), '1');
        DUE.is("35: the last", x.paper(21), '0');
        int[] none = {22, -1, Integer.MAX_VALUE, Integer.MIN_VALUE};
        for (int i : none) {
            DUE.is("35: NONE", x.paper(i), -1);
        }
        DUE.is("34: a shorter one", x.spell(2), 20);
        DUE.isText("34: spelled", Due.paper(x), "0 1000000;0 -1000000");
        DUE.is("35: beyond it", x.paper(20), -1);
        DUE.is("36: no THE TAPE", x.told(5), 0);
    }

    private static void spellTheLongest() {
        DoubleLedger x = new DoubleLedger();
        for (int i = 1; i < 30; i++) {
            x.account(0, 0, 0);
        }
        for (int i = 0; i < 10; i++) {
            Due.read(x, "29 1;28 -1");
        }
        StringBuilder text = new StringBuilder();
        x.begin();
        for (int i = 0; i < 5; i++) {
            x.posting(28, 1000000);
            x.posting(29, -1000000);
            text.append(i > 0 ? ";" : "").append("28 -1000000;29 1000000");
        }
        DUE.is("34: the 11th", x.post(), 10);
        DUE.is("34: reversed", x.reverse(10), 11);
        text.append(" REV10");
        DUE.is("34: the longest", x.spell(11), text.length());
        DUE.isText("34: the longest", Due.paper(x), text.toString());
    }
}
