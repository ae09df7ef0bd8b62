/** The boundary cases of the promises 1 to 8, sentence by sentence. */
public final class PromiseEdgesTest {
    private static final Check CHECK = new Check();
    private static final int BAD = ConditionMill.BAD, FULL = ConditionMill.FULL;
    private static final int[] FAR = {Integer.MIN_VALUE, Integer.MIN_VALUE + 1, -4096, -256, 4097, 65536, 1 << 30,
        Integer.MAX_VALUE};

    public static void main(String[] args) {
        emptyText();
        nothingReckoned();
        lowestBytes();
        lowestFirst();
        howManyItHas();
        badFeed();
        fullFeed();
        keepsFirstBytes();
        howManyWent();
        badCut();
        reckonsTheText();
        latestReckon();
        zeroBehindAFault();
        zeroBeforeAny();
        noSign();
        falseBehindAFault();
        falseBeforeAny();
        howManyTokens();
        firstPlace();
        howManyBytes();
        kinds();
        badWhat();
        noSuchToken();
        CHECK.end();
    }

    private static void emptyText() {
        CHECK.sentence("1: An empty text,");
        CHECK.due("tokens()", new ConditionMill().tokens(), 0);
        CHECK.due("reckon()", new ConditionMill().reckon(), 11);
        CHECK.due("cut(0)", new ConditionMill().cut(0), 0);
        CHECK.due("cut(1)", new ConditionMill().cut(1), BAD);
        CHECK.due("feed of 1", new ConditionMill().feed('1', 1), 1);
        for (int what = 0; what <= 2; what++) {
            CHECK.due("token(0, " + what + ")", new ConditionMill().token(0, what), BAD);
        }
        ConditionMill used = Check.mill("12");
        CHECK.due("tokens() of another object", new ConditionMill().tokens(), 0);
        CHECK.due("tokens() of the first one", used.tokens(), 1);
    }

    private static void nothingReckoned() {
        CHECK.sentence("1: nothing reckoned.");
        CHECK.due("value()", new ConditionMill().value(), 0);
        CHECK.due("isPlain()", new ConditionMill().isPlain(), false);
        ConditionMill used = Check.mill("~0u");
        used.reckon();
        ConditionMill other = new ConditionMill();
        CHECK.due("value() of another object", other.value(), 0);
        CHECK.due("isPlain() of another object", other.isPlain(), false);
        other.reckon();
        CHECK.due("value() of the first one", used.value(), -1);
        CHECK.due("isPlain() of the first one", used.isPlain(), true);
    }

    private static void lowestBytes() {
        CHECK.sentence("2: The n lowest of eight bytes come behind the text,");
        long digits = 0x3837363534333231L;
        long[] values = {1, 12, 123, 1234, 12345, 123456, 1234567, 12345678};
        for (int n = 1; n <= 8; n++) {
            ConditionMill mill = new ConditionMill();
            mill.feed(digits, n);
            CHECK.due("length of what " + n + " bytes bring", mill.token(0, 1), n);
            mill.reckon();
            CHECK.due("value() of what " + n + " bytes bring", mill.value(), values[n - 1]);
            mill.feed(0x39, 1);
            mill.reckon();
            CHECK.due("value() with a byte behind it", mill.value(), values[n - 1] * 10 + 9);
        }
    }

    /** Each of the eight places brings each byte, those of 128 and more too. */
    private static void lowestFirst() {
        CHECK.sentence("2: the lowest one first");
        int[] bytes = {0, 1, 127, 128, 129, 254, 255};
        for (int place = 1; place <= 6; place++) {
            for (int b : bytes) {
                long row = 0x2020202020202020L & ~(0xffffffL << 8 * (place - 1));
                row |= 0x270027L << 8 * (place - 1) | (long) b << 8 * place;
                ConditionMill mill = new ConditionMill();
                mill.feed(row, 8);
                CHECK.due("reckon() of byte " + b + " at " + place, mill.reckon(), 0);
                CHECK.due("value() of byte " + b + " at " + place, mill.value(), b);
                CHECK.due("place of byte " + b, mill.token(0, 0), place - 1);
            }
        }
        ConditionMill all = new ConditionMill();
        CHECK.due("feed of eight bytes 255", all.feed(-1L, 8), 8);
        CHECK.due("tokens() of eight bytes 255", all.tokens(), 8);
        ConditionMill high = new ConditionMill();
        CHECK.due("feed of 'z' below bytes 255", high.feed(0xffffffffffffff7aL, 1), 1);
        CHECK.due("kind of 'z'", high.token(0, 2), 1);
    }

    private static void howManyItHas() {
        CHECK.sentence("2: how many it has.");
        ConditionMill mill = new ConditionMill();
        int size = 0;
        for (int n = 1; n <= 8; n++) {
            size += n;
            CHECK.due("feed of " + n, mill.feed(0, n), size);
        }
        mill.cut(10);
        CHECK.due("feed behind cut", mill.feed(0, 3), 13);
        mill.cut(0);
        CHECK.due("feed behind cut(0)", mill.feed(0, 1), 1);
        ConditionMill longer = new ConditionMill();
        for (int i = 1; i <= 512; i++) {
            CHECK.due("feed " + i, longer.feed(-1L, 8), 8 * i);
        }
    }

    private static void badFeed() {
        CHECK.sentence("2: BAD: n is not 1 .. 8;");
        ConditionMill mill = Check.mill("42");
        mill.reckon();
        int[] wrong = {0, -1, -8, 9, 10, 16, 64};
        for (int n : wrong) {
            CHECK.due("feed of " + n, mill.feed(0x3131, n), BAD);
        }
        for (int n : FAR) {
            CHECK.due("feed of " + n, mill.feed(0x3131, n), BAD);
        }
        CHECK.due("value() behind BAD", mill.value(), 42);
        CHECK.due("length behind BAD", mill.token(0, 1), 2);
        CHECK.due("feed behind BAD", mill.feed('1', 1), 3);
        mill.reckon();
        CHECK.due("value() behind BAD and feed", mill.value(), 421);
    }

    /** These calls are behind the 512th, before which no text can be full; they are asked all the same. */
    private static void fullFeed() {
        CHECK.sentence("2: FULL.");
        for (int room = 0; room <= 8; room++) {
            ConditionMill mill = Check.mill(" ".repeat(4096 - room));
            for (int n = room + 1; n <= 8; n++) {
                CHECK.due("feed of " + n + " where " + room + " fit", mill.feed(-1L, n), FULL);
            }
            CHECK.due("tokens() behind FULL", mill.tokens(), 0);
            CHECK.due("a wrong n where " + room + " fit", mill.feed(-1L, 9), BAD);
            if (room > 0) {
                CHECK.due("feed of " + room + " where they fit", mill.feed(-1L, room), 4096);
                CHECK.due("tokens() of the full text", mill.tokens(), room);
            }
        }
    }

    private static void keepsFirstBytes() {
        CHECK.sentence("3: The text keeps its first n bytes");
        long[] values = {0, 1, 12, 123, 1234, 12345};
        for (int n = 0; n <= 5; n++) {
            ConditionMill mill = Check.mill("12345");
            mill.cut(n);
            CHECK.due("tokens() behind cut(" + n + ")", mill.tokens(), n == 0 ? 0 : 1);
            CHECK.due("reckon() behind cut(" + n + ")", mill.reckon(), n == 0 ? 11 : 0);
            CHECK.due("value() behind cut(" + n + ")", mill.value(), values[n]);
            CHECK.due("feed behind cut(" + n + ")", mill.feed('7', 1), n + 1);
            mill.reckon();
            CHECK.due("value() behind cut(" + n + ") and feed", mill.value(), values[n] * 10 + 7);
        }
        // What went is not looked at: it neither closes a quote nor makes a token longer.
        String[] texts = {"'a'", "\"a\"", "L''", "++", "->", "<<=", "...", "&&", "ab", "12", "1.", "1e+", ".5"};
        for (String text : texts) {
            ConditionMill mill = Check.mill(text);
            int n = text.length() - 1;
            mill.cut(n);
            ConditionMill fresh = Check.mill(text.substring(0, n));
            CHECK.due("tokens() of " + text + " behind cut", mill.tokens(), fresh.tokens());
            int last = fresh.tokens() - 1;
            for (int what = 0; what <= 2; what++) {
                CHECK.due("the last token of " + text + " behind cut", mill.token(last, what), fresh.token(last, what));
            }
        }
    }

    private static void howManyWent() {
        CHECK.sentence("3: how many went.");
        ConditionMill mill = Check.mill("1234567890");
        CHECK.due("cut(10) of 10", mill.cut(10), 0);
        CHECK.due("cut(9) of 10", mill.cut(9), 1);
        CHECK.due("cut(9) of 9", mill.cut(9), 0);
        CHECK.due("cut(1) of 9", mill.cut(1), 8);
        CHECK.due("cut(0) of 1", mill.cut(0), 1);
        CHECK.due("cut(0) of 0", mill.cut(0), 0);
        CHECK.due("cut(0) of 4088", Check.mill(" ".repeat(4088)).cut(0), 4088);
        CHECK.due("cut(4088) of 4088", Check.mill(" ".repeat(4088)).cut(4088), 0);
    }

    private static void badCut() {
        CHECK.sentence("3: BAD: n is not 0 .. its bytes.");
        ConditionMill mill = Check.mill("12345u");
        mill.reckon();
        int[] wrong = {-1, -6, 7, 8};
        for (int n : wrong) {
            CHECK.due("cut(" + n + ") of 6", mill.cut(n), BAD);
        }
        for (int n : FAR) {
            CHECK.due("cut(" + n + ") of 6", mill.cut(n), BAD);
        }
        CHECK.due("length behind BAD", mill.token(0, 1), 6);
        CHECK.due("value() behind BAD", mill.value(), 12345);
        mill.cut(2);
        CHECK.due("cut(3) of 2", mill.cut(3), BAD);
        CHECK.due("cut(6) of 2", mill.cut(6), BAD);
        CHECK.due("length behind cut and BAD", mill.token(0, 1), 2);
        CHECK.due("cut(2) of 2", mill.cut(2), 0);
        CHECK.due("cut(0) of 2", mill.cut(0), 2);
        CHECK.due("cut(0) of 0", mill.cut(0), 0);
        CHECK.due("cut(1) of 0", mill.cut(1), BAD);
        CHECK.due("cut(-1) of 0", mill.cut(-1), BAD);
        CHECK.due("cut(4096) of 4088", Check.mill(" ".repeat(4088)).cut(4096), BAD);
        CHECK.due("cut(4089) of 4088", Check.mill(" ".repeat(4088)).cut(4089), BAD);
    }

    private static void reckonsTheText() {
        CHECK.sentence("4: Reckons the text: 0, or the fault.");
        ConditionMill mill = Check.mill("1/0");
        CHECK.due("reckon() of 1/0", mill.reckon(), 12);
        CHECK.due("reckon() of 1/0 again", mill.reckon(), 12);
        mill.cut(2);
        CHECK.due("reckon() of 1/", mill.reckon(), 11);
        CHECK.due("reckon() of 1/ again", mill.reckon(), 11);
        mill.cut(1);
        CHECK.due("reckon() of 1", mill.reckon(), 0);
        CHECK.due("reckon() of 1 again", mill.reckon(), 0);
        CHECK.due("tokens() behind reckon()", mill.tokens(), 1);
        CHECK.due("cut(1) behind reckon()", mill.cut(1), 0);
        // What a broken text leaves waiting is gone.
        Check.feed(mill, "||(1?((0&&-");
        CHECK.due("reckon() of an open text", mill.reckon(), 11);
        mill.cut(1);
        Check.feed(mill, "/0");
        CHECK.due("reckon() behind an open text", mill.reckon(), 12);
        mill.cut(0);
        Check.feed(mill, "(".repeat(60) + "1" + ")".repeat(60));
        CHECK.due("reckon() of a deep text", mill.reckon(), 0);
        CHECK.due("reckon() of a deep text again", mill.reckon(), 0);
        mill.cut(0);
        CHECK.due("reckon() of nothing", mill.reckon(), 11);
    }

    private static void latestReckon() {
        CHECK.sentence("5: What the latest reckon() came to;");
        ConditionMill mill = Check.mill("5");
        mill.reckon();
        CHECK.due("value()", mill.value(), 5);
        CHECK.due("value() again", mill.value(), 5);
        Check.feed(mill, "+1");
        CHECK.due("value() behind feed", mill.value(), 5);
        mill.tokens();
        mill.token(0, 0);
        mill.isPlain();
        mill.feed(0, 9);
        mill.cut(-1);
        CHECK.due("value() behind other calls", mill.value(), 5);
        mill.reckon();
        CHECK.due("value() behind reckon()", mill.value(), 6);
        mill.cut(0);
        CHECK.due("value() behind cut", mill.value(), 6);
        CHECK.signed("-9223372036854775807-1", Long.MIN_VALUE);
        CHECK.signed("9223372036854775807", Long.MAX_VALUE);
        CHECK.plain("18446744073709551615u", -1);
        CHECK.plain("9223372036854775808u", Long.MIN_VALUE);
    }

    private static void zeroBehindAFault() {
        CHECK.sentence("5: 0 behind a fault,");
        String[] spoilt = {"/0", " 6", "/", "@", "%0u"};
        for (String tail : spoilt) {
            ConditionMill mill = Check.mill("5");
            mill.reckon();
            Check.feed(mill, tail);
            mill.reckon();
            CHECK.due("value() of 5" + tail, mill.value(), 0);
            mill.cut(1);
            CHECK.due("value() behind cut", mill.value(), 0);
            mill.reckon();
            CHECK.due("value() behind cut and reckon()", mill.value(), 5);
        }
    }

    private static void zeroBeforeAny() {
        CHECK.sentence("5: and before any.");
        ConditionMill mill = Check.mill("5");
        CHECK.due("value() before any", mill.value(), 0);
        mill.tokens();
        CHECK.due("value() behind tokens()", mill.value(), 0);
        mill.reckon();
        CHECK.due("value() behind reckon()", mill.value(), 5);
    }

    private static void noSign() {
        CHECK.sentence("6: Whether that has no sign;");
        ConditionMill mill = Check.mill("5u");
        mill.reckon();
        CHECK.due("isPlain() of 5u", mill.isPlain(), true);
        CHECK.due("isPlain() of 5u again", mill.isPlain(), true);
        Check.feed(mill, ">1");
        CHECK.due("isPlain() behind feed", mill.isPlain(), true);
        mill.cut(4);
        mill.tokens();
        mill.value();
        CHECK.due("isPlain() behind other calls", mill.isPlain(), true);
        mill.reckon();
        CHECK.due("isPlain() of 5u>1", mill.isPlain(), false);
        mill.cut(2);
        CHECK.due("isPlain() behind cut", mill.isPlain(), false);
        mill.reckon();
        CHECK.due("isPlain() behind cut and reckon()", mill.isPlain(), true);
        CHECK.signed("5", 5);
        CHECK.signed("-5", -5);
        CHECK.plain("0u", 0);
    }

    private static void falseBehindAFault() {
        CHECK.sentence("6: false behind a fault,");
        String[] spoilt = {"/0", " 6", "/", "u", "%0u", "@"};
        for (String tail : spoilt) {
            ConditionMill mill = Check.mill("5u");
            mill.reckon();
            Check.feed(mill, tail);
            mill.reckon();
            CHECK.due("isPlain() of 5u" + tail, mill.isPlain(), false);
            mill.cut(2);
            CHECK.due("isPlain() behind cut", mill.isPlain(), false);
            mill.reckon();
            CHECK.due("isPlain() behind cut and reckon()", mill.isPlain(), true);
        }
    }

    private static void falseBeforeAny() {
        CHECK.sentence("6: and before any.");
        ConditionMill mill = Check.mill("5u");
        CHECK.due("isPlain() before any", mill.isPlain(), false);
        mill.tokens();
        CHECK.due("isPlain() behind tokens()", mill.isPlain(), false);
        mill.reckon();
        CHECK.due("isPlain() behind reckon()", mill.isPlain(), true);
    }

    private static void howManyTokens() {
        CHECK.sentence("7: How many tokens the text has.");
        CHECK.count("", 0);
        CHECK.count(" ", 0);
        CHECK.count("a", 1);
        CHECK.count(" a ", 1);
        CHECK.count("(".repeat(4088), 4088);
        CHECK.count("1 ".repeat(2044), 2044);
        CHECK.count("+".repeat(4088), 2044);
        CHECK.count(".".repeat(4088), 1364);
        CHECK.count("a".repeat(4088), 1);
        CHECK.count("\u00ff".repeat(4088), 4088);
        ConditionMill mill = Check.mill("a b");
        CHECK.due("tokens()", mill.tokens(), 2);
        CHECK.due("tokens() again", mill.tokens(), 2);
        mill.feed('c', 1);
        CHECK.due("tokens() behind feed", mill.tokens(), 2);
        mill.reckon();
        CHECK.due("tokens() behind reckon()", mill.tokens(), 2);
        mill.token(0, 0);
        CHECK.due("tokens() behind token()", mill.tokens(), 2);
        mill.cut(1);
        CHECK.due("tokens() behind cut", mill.tokens(), 1);
        // A quote that was open when it was asked for is none once its end has come.
        String[] quotes = {"'", "\"", "L'", "L\""};
        for (String quote : quotes) {
            ConditionMill open = Check.mill(quote + "x");
            CHECK.due("tokens() of " + quote + "x", open.tokens(), quote.length() + 1);
            open.feed(quote.charAt(quote.length() - 1), 1);
            CHECK.due("tokens() of " + quote + "x with its end", open.tokens(), 1);
        }
    }

    private static void firstPlace() {
        CHECK.sentence("8: Of token i of the text: its first byte's place (what = 0)");
        CHECK.due("place of the first byte", Check.mill("a").token(0, 0), 0);
        CHECK.due("place behind a blank", Check.mill(" a").token(0, 0), 1);
        CHECK.due("place of L", Check.mill("+L'a'").token(1, 0), 1);
        CHECK.due("place of the last byte", Check.mill(" ".repeat(4087) + "a").token(0, 0), 4087);
        CHECK.due("place of token 4087", Check.mill("(".repeat(4088)).token(4087, 0), 4087);
        CHECK.due("place of token 2043", Check.mill("+".repeat(4088)).token(2043, 0), 4086);
        ConditionMill mill = Check.mill("a+(12)");
        int[] places = {0, 1, 2, 3, 5};
        for (int i = places.length - 1; i >= 0; i--) {
            CHECK.due("token(" + i + ", 0)", mill.token(i, 0), places[i]);
            CHECK.due("token(" + i + ", 0) again", mill.token(i, 0), places[i]);
        }
    }

    private static void howManyBytes() {
        CHECK.sentence("8: how many bytes (1)");
        CHECK.due("length of a", Check.mill("a").token(0, 1), 1);
        CHECK.due("length of a with blanks", Check.mill(" a ").token(0, 1), 1);
        CHECK.due("length of the longest name", Check.mill("a".repeat(4088)).token(0, 1), 4088);
        CHECK.due("length of the longest number", Check.mill("1".repeat(4088)).token(0, 1), 4088);
        CHECK.due("length of the longest text", Check.mill("\"" + "a".repeat(4086) + "\"").token(0, 1), 4088);
        CHECK.due("length of L''", Check.mill("L''").token(0, 1), 3);
        CHECK.due("length of ...", Check.mill("...").token(0, 1), 3);
        CHECK.due("length of an open quote", Check.mill("'abc").token(0, 1), 1);
        CHECK.due("length of another byte", Check.mill("@@").token(0, 1), 1);
    }

    private static void kinds() {
        CHECK.sentence("8: its kind (2): 1 a name, 2 a number, 3 a text, 4 a character, 5 a sign, 6 any other.");
        String[] texts = {"a", "_", "L", "1", ".5", "\"\"", "L\"\"", "''", "L''", "'abc'", "+", "...", "#", "@", "'", "\"", "\\",
            "\0", "\u00ff", "$", "`"};
        int[] kinds = {1, 1, 1, 2, 2, 3, 3, 4, 4, 4, 5, 5, 5, 6, 6, 6, 6, 6, 6, 6, 6};
        for (int i = 0; i < texts.length; i++) {
            CHECK.due("kind of " + texts[i], Check.mill(texts[i]).token(0, 2), kinds[i]);
        }
    }

    private static void badWhat() {
        CHECK.sentence("8: BAD: what is none of these,");
        ConditionMill mill = Check.mill("a b");
        int[] wrong = {-1, -2, 3, 4, 5, 6};
        for (int what : wrong) {
            CHECK.due("token(0, " + what + ")", mill.token(0, what), BAD);
            CHECK.due("token(1, " + what + ")", mill.token(1, what), BAD);
            CHECK.due("token(2, " + what + ")", mill.token(2, what), BAD);
        }
        for (int what : FAR) {
            CHECK.due("token(0, " + what + ")", mill.token(0, what), BAD);
        }
        CHECK.due("token(1, 0) behind BAD", mill.token(1, 0), 2);
    }

    private static void noSuchToken() {
        CHECK.sentence("8: or there is no such token.");
        ConditionMill mill = Check.mill("a b ");
        for (int what = 0; what <= 2; what++) {
            CHECK.due("token(-1, " + what + ")", mill.token(-1, what), BAD);
            CHECK.due("token(2, " + what + ")", mill.token(2, what), BAD);
            CHECK.due("token(3, " + what + ")", mill.token(3, what), BAD);
            for (int i : FAR) {
                CHECK.due("token(" + i + ", " + what + ")", mill.token(i, what), BAD);
            }
        }
        CHECK.due("token(1, 0) behind BAD", mill.token(1, 0), 2);
        mill.cut(2);
        CHECK.due("token(1, 0) behind cut", mill.token(1, 0), BAD);
        mill.cut(0);
        CHECK.due("token(0, 0) of nothing", mill.token(0, 0), BAD);
        CHECK.due("token(0, 0) of a blank", Check.mill(" ").token(0, 0), BAD);
        CHECK.due("token(4088, 0) of 4088", Check.mill("(".repeat(4088)).token(4088, 0), BAD);
        CHECK.due("token(2044, 0) of 2044", Check.mill("+".repeat(4088)).token(2044, 0), BAD);
        CHECK.due("token(4095, 0) of 4088", Check.mill("(".repeat(4088)).token(4095, 0), BAD);
    }
}
