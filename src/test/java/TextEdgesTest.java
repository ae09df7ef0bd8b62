/** The boundary cases of "Terms", the text and its tokens, sentence by sentence. */
public final class TextEdgesTest {
    private static final Check CHECK = new Check();
    private static final int NAME = 1, NUMBER = 2, TEXT = 3, CHARACTER = 4, SIGN = 5, OTHER = 6;
    private static final String[] SIGNS = ("... <<= >>= -> ++ -- << >> <= >= == != && || *= /= %= += -= &= ^= |= ## # [ ] "
            + "( ) { } . & * + - ~ ! / % < > ^ | ? : ; = ,").split(" ");

    public static void main(String[] args) {
        mostBytes();
        letters();
        digits();
        blanks();
        blanksBetween();
        names();
        numbersFromADigit();
        numbersFromAPoint();
        behindADigit();
        signsInNumbers();
        quotes();
        lBeforeAQuote();
        nextQuote();
        beforeALineEnds();
        backslashTakes();
        backslashBeforeALineEnd();
        openQuotes();
        longestSign();
        anyOther();
        CHECK.end();
    }

    /** The kind of a byte that is a token by itself, 0 if it is none. */
    private static int kindOf(int b) {
        ConditionMill mill = new ConditionMill();
        mill.feed(b, 1);
        return mill.tokens() == 0 ? 0 : mill.token(0, 2);
    }

    private static void kind(int b, int kind) {
        CHECK.due("kind of byte " + b, kindOf(b), kind);
    }

    private static void mostBytes() {
        CHECK.sentence("THE TEXT is a row of at most 4096 bytes.");
        ConditionMill mill = new ConditionMill();
        for (int i = 1; i <= 511; i++) {
            mill.feed(0x2020202020202020L, 8);
        }
        CHECK.due("the 512th feed of 8", mill.feed(0x2020202020202020L, 8), 4096);
        // This one is behind the 512th call, before which no text can be full; it is asked all the same.
        CHECK.due("feed of a byte more", mill.feed(32, 1), ConditionMill.FULL);
        // Each of the 4088 bytes that can still be asked for counts.
        CHECK.tokens("7" + " ".repeat(4020) + "8", 0, 1, NUMBER, 4021, 1, NUMBER);
        CHECK.count(" ".repeat(4087) + "8", 1);
    }

    private static void letters() {
        CHECK.sentence("LETTERS are A .. Z, a .. z and 95");
        int[] letters = {'A', 'B', 'Y', 'Z', 'a', 'b', 'y', 'z', 95};
        int[] none = {64, 91, 94, 96, 123, 36, 128, 192, 193, 223, 225, 255};
        for (int b : letters) {
            kind(b, NAME);
            CHECK.tokens("q" + (char) b, 0, 2, NAME);
            CHECK.tokens("5" + (char) b, 0, 2, NUMBER);
        }
        for (int b : none) {
            CHECK.due("byte " + b + " is a name", kindOf(b) == NAME, false);
            CHECK.due("tokens of q and byte " + b, Check.mill("q" + (char) b).tokens(), 2);
            CHECK.due("tokens of 5 and byte " + b, Check.mill("5" + (char) b).tokens(), 2);
        }
    }

    private static void digits() {
        CHECK.sentence("DIGITS 0 .. 9");
        for (int b = 48; b <= 57; b++) {
            kind(b, NUMBER);
            CHECK.tokens("q" + (char) b, 0, 2, NAME);
            CHECK.tokens("." + (char) b, 0, 2, NUMBER);
        }
        int[] none = {47, 58, 176, 185, 178, 179};
        for (int b : none) {
            CHECK.due("byte " + b + " is a number", kindOf(b) == NUMBER, false);
            CHECK.due("tokens of q and byte " + b, Check.mill("q" + (char) b).tokens(), 2);
            CHECK.due("tokens of . and byte " + b, Check.mill("." + (char) b).tokens(), 2);
        }
    }

    private static void blanks() {
        CHECK.sentence("BLANKS 32, 9, 10, 11, 12, 13");
        int[] blanks = {32, 9, 10, 11, 12, 13};
        int[] none = {0, 8, 14, 28, 31, 127, 133, 137, 141, 160};
        for (int b : blanks) {
            kind(b, 0);
            CHECK.tokens("a" + (char) b + "b", 0, 1, NAME, 2, 1, NAME);
        }
        for (int b : none) {
            kind(b, OTHER);
            CHECK.tokens("a" + (char) b + "b", 0, 1, NAME, 1, 1, OTHER, 2, 1, NAME);
        }
        CHECK.due("byte 33 is a sign", kindOf(33), SIGN);
    }

    private static void blanksBetween() {
        CHECK.sentence("It consists of TOKENS with blanks between");
        CHECK.tokens("");
        CHECK.tokens(" ");
        CHECK.tokens(" \t\n\u000b\f\r");
        CHECK.count(" ".repeat(4088), 0);
        CHECK.tokens("a ", 0, 1, NAME);
        CHECK.tokens(" a", 1, 1, NAME);
        CHECK.tokens("a1 1a", 0, 2, NAME, 3, 2, NUMBER);
        CHECK.tokens("a+1", 0, 1, NAME, 1, 1, SIGN, 2, 1, NUMBER);
        CHECK.tokens("a\"\"1''a", 0, 1, NAME, 1, 2, TEXT, 3, 1, NUMBER, 4, 2, CHARACTER, 6, 1, NAME);
        CHECK.tokens("+ +", 0, 1, SIGN, 2, 1, SIGN);
    }

    private static void names() {
        CHECK.sentence("the longest NAME (a letter, and letters and digits behind it)");
        CHECK.tokens("a", 0, 1, NAME);
        CHECK.tokens("_", 0, 1, NAME);
        CHECK.tokens("a0123456789", 0, 11, NAME);
        CHECK.tokens("AZaz_09", 0, 7, NAME);
        CHECK.tokens("a".repeat(4000), 0, 4000, NAME);
        CHECK.tokens("a.b", 0, 1, NAME, 1, 1, SIGN, 2, 1, NAME);
        CHECK.tokens("e+1", 0, 1, NAME, 1, 1, SIGN, 2, 1, NUMBER);
        CHECK.tokens("a\u00ff", 0, 1, NAME, 1, 1, OTHER);
        CHECK.tokens("a$b", 0, 1, NAME, 1, 1, OTHER, 2, 1, NAME);
    }

    private static void numbersFromADigit() {
        CHECK.sentence("the longest NUMBER: a digit,");
        for (char b = '0'; b <= '9'; b++) {
            CHECK.tokens(String.valueOf(b), 0, 1, NUMBER);
            CHECK.tokens(b + "a", 0, 2, NUMBER);
        }
        CHECK.tokens("a1", 0, 2, NAME);
        CHECK.tokens("+1", 0, 1, SIGN, 1, 1, NUMBER);
        CHECK.tokens("1".repeat(4000), 0, 4000, NUMBER);
    }

    private static void numbersFromAPoint() {
        CHECK.sentence("or a point and a digit,");
        CHECK.tokens(".0", 0, 2, NUMBER);
        CHECK.tokens(".9", 0, 2, NUMBER);
        CHECK.tokens(".", 0, 1, SIGN);
        CHECK.tokens(".a", 0, 1, SIGN, 1, 1, NAME);
        CHECK.tokens(". 5", 0, 1, SIGN, 2, 1, NUMBER);
        CHECK.tokens("..5", 0, 1, SIGN, 1, 2, NUMBER);
        CHECK.tokens("...5", 0, 3, SIGN, 3, 1, NUMBER);
        CHECK.tokens("....5", 0, 3, SIGN, 3, 2, NUMBER);
        CHECK.tokens(".e+5", 0, 1, SIGN, 1, 1, NAME, 2, 1, SIGN, 3, 1, NUMBER);
        CHECK.tokens("a.5", 0, 1, NAME, 1, 2, NUMBER);
    }

    private static void behindADigit() {
        CHECK.sentence("and behind it digits, letters, points,");
        CHECK.tokens("1.", 0, 2, NUMBER);
        CHECK.tokens("1..2", 0, 4, NUMBER);
        CHECK.tokens("1...", 0, 4, NUMBER);
        CHECK.tokens(".5.5.", 0, 5, NUMBER);
        CHECK.tokens("1_a.Z9", 0, 6, NUMBER);
        CHECK.tokens("0x1F", 0, 4, NUMBER);
        CHECK.tokens("1.e", 0, 3, NUMBER);
        CHECK.tokens("1 .5", 0, 1, NUMBER, 2, 2, NUMBER);
        CHECK.tokens("1'a'", 0, 1, NUMBER, 1, 3, CHARACTER);
        CHECK.tokens("1\u00ff", 0, 1, NUMBER, 1, 1, OTHER);
        CHECK.tokens("1@", 0, 1, NUMBER, 1, 1, OTHER);
        CHECK.tokens("1/2", 0, 1, NUMBER, 1, 1, SIGN, 2, 1, NUMBER);
    }

    private static void signsInNumbers() {
        CHECK.sentence("and + or - behind e, E, p, P");
        for (char b = 0; b < 256; b++) {
            boolean letter = b >= 'a' && b <= 'z' || b >= 'A' && b <= 'Z';
            if (letter) {
                int length = "eEpP".indexOf(b) >= 0 ? 4 : 2;
                CHECK.due("length of 1" + b + "+1", Check.mill("1" + b + "+1").token(0, 1), length);
                CHECK.due("length of .5" + b + "-1", Check.mill(".5" + b + "-1").token(0, 1), length == 4 ? 5 : 3);
            }
        }
        CHECK.tokens("1+1", 0, 1, NUMBER, 1, 1, SIGN, 2, 1, NUMBER);
        CHECK.tokens("1.+1", 0, 2, NUMBER, 2, 1, SIGN, 3, 1, NUMBER);
        CHECK.tokens("1_-1", 0, 2, NUMBER, 2, 1, SIGN, 3, 1, NUMBER);
        CHECK.tokens("1e", 0, 2, NUMBER);
        CHECK.tokens("1e+", 0, 3, NUMBER);
        CHECK.tokens("1e++", 0, 3, NUMBER, 3, 1, SIGN);
        CHECK.tokens("1e+-1", 0, 3, NUMBER, 3, 1, SIGN, 4, 1, NUMBER);
        CHECK.tokens("1e+e-1", 0, 6, NUMBER);
        CHECK.tokens("1.e-p+", 0, 6, NUMBER);
        CHECK.tokens("1e+.5", 0, 5, NUMBER);
        CHECK.tokens("1e5+1", 0, 3, NUMBER, 3, 1, SIGN, 4, 1, NUMBER);
        CHECK.tokens("1e.+1", 0, 3, NUMBER, 3, 1, SIGN, 4, 1, NUMBER);
        CHECK.tokens("1e +1", 0, 2, NUMBER, 3, 1, SIGN, 4, 1, NUMBER);
        CHECK.tokens("1e*1", 0, 2, NUMBER, 2, 1, SIGN, 3, 1, NUMBER);
        CHECK.tokens("0xe+1", 0, 5, NUMBER);
    }

    private static void quotes() {
        CHECK.sentence("a TEXT or CHARACTER: from a byte 34 (39)");
        CHECK.tokens("\"\"", 0, 2, TEXT);
        CHECK.tokens("''", 0, 2, CHARACTER);
        CHECK.tokens("\"a\"", 0, 3, TEXT);
        CHECK.tokens("'a'", 0, 3, CHARACTER);
        CHECK.tokens("`a`", 0, 1, OTHER, 1, 1, NAME, 2, 1, OTHER);
        CHECK.tokens("\"" + "a".repeat(4000) + "\"", 0, 4002, TEXT);
        CHECK.tokens("'" + "a".repeat(4000) + "'", 0, 4002, CHARACTER);
    }

    private static void lBeforeAQuote() {
        CHECK.sentence("perhaps a L before it,");
        CHECK.tokens("L\"\"", 0, 3, TEXT);
        CHECK.tokens("L''", 0, 3, CHARACTER);
        CHECK.tokens("L'a'", 0, 4, CHARACTER);
        CHECK.tokens("l'a'", 0, 1, NAME, 1, 3, CHARACTER);
        CHECK.tokens("u\"a\"", 0, 1, NAME, 1, 3, TEXT);
        CHECK.tokens("LL'a'", 0, 2, NAME, 2, 3, CHARACTER);
        CHECK.tokens("aL'a'", 0, 2, NAME, 2, 3, CHARACTER);
        CHECK.tokens("1L'a'", 0, 2, NUMBER, 2, 3, CHARACTER);
        CHECK.tokens("L 'a'", 0, 1, NAME, 2, 3, CHARACTER);
        CHECK.tokens("+L'a'", 0, 1, SIGN, 1, 4, CHARACTER);
        CHECK.tokens("''L''", 0, 2, CHARACTER, 2, 3, CHARACTER);
        CHECK.tokens("La'a'", 0, 2, NAME, 2, 3, CHARACTER);
        CHECK.tokens("L", 0, 1, NAME);
    }

    private static void nextQuote() {
        CHECK.sentence("to the next one");
        CHECK.tokens("\"a\"b\"c\"", 0, 3, TEXT, 3, 1, NAME, 4, 3, TEXT);
        CHECK.tokens("''''", 0, 2, CHARACTER, 2, 2, CHARACTER);
        CHECK.tokens("\"'\"", 0, 3, TEXT);
        CHECK.tokens("'\"'", 0, 3, CHARACTER);
        CHECK.tokens("\"''\"'", 0, 4, TEXT, 4, 1, OTHER);
        CHECK.tokens("\"L\"", 0, 3, TEXT);
        CHECK.tokens("'''", 0, 2, CHARACTER, 2, 1, OTHER);
    }

    private static void beforeALineEnds() {
        CHECK.sentence("before a blank 10,");
        CHECK.tokens("'\n'", 0, 1, OTHER, 2, 1, OTHER);
        CHECK.tokens("\"a\n\"", 0, 1, OTHER, 1, 1, NAME, 3, 1, OTHER);
        CHECK.tokens("L\"\n\"", 0, 1, NAME, 1, 1, OTHER, 3, 1, OTHER);
        CHECK.tokens("\"\"\n", 0, 2, TEXT);
        CHECK.tokens("\"\n\"b\"", 0, 1, OTHER, 2, 3, TEXT);
        for (int b = 0; b < 256; b++) {
            if (b != 10 && b != 34 && b != 92) {
                CHECK.tokens("\"" + (char) b + "\"", 0, 3, TEXT);
            }
            if (b != 10 && b != 39 && b != 92) {
                CHECK.tokens("'" + (char) b + "'", 0, 3, CHARACTER);
            }
        }
    }

    private static void backslashTakes() {
        CHECK.sentence("92 taking the byte behind it along,");
        CHECK.tokens("\"\\\"\"", 0, 4, TEXT);
        CHECK.tokens("'\\''", 0, 4, CHARACTER);
        CHECK.tokens("'\\\\'", 0, 4, CHARACTER);
        CHECK.tokens("'\\\\''", 0, 4, CHARACTER, 4, 1, OTHER);
        CHECK.tokens("'\\\\\\''", 0, 6, CHARACTER);
        CHECK.tokens("\"\\'\"", 0, 4, TEXT);
        CHECK.tokens("\"\\\r\"", 0, 4, TEXT);
        CHECK.tokens("\"a\\\"b\"", 0, 6, TEXT);
        CHECK.tokens("'\\'", 0, 1, OTHER, 1, 1, OTHER, 2, 1, OTHER);
        CHECK.tokens("'\\", 0, 1, OTHER, 1, 1, OTHER);
        CHECK.tokens("\"\\\\\\\"", 0, 1, OTHER, 1, 1, OTHER, 2, 1, OTHER, 3, 1, OTHER, 4, 1, OTHER);
        // Outside a quote it takes nothing along.
        CHECK.tokens("\\'a'", 0, 1, OTHER, 1, 3, CHARACTER);
        CHECK.tokens("\\\"a\"", 0, 1, OTHER, 1, 3, TEXT);
        CHECK.tokens("\\ a", 0, 1, OTHER, 2, 1, NAME);
    }

    private static void backslashBeforeALineEnd() {
        CHECK.sentence("but no blank 10");
        CHECK.tokens("\"\\\n\"", 0, 1, OTHER, 1, 1, OTHER, 3, 1, OTHER);
        CHECK.tokens("'\\\n'", 0, 1, OTHER, 1, 1, OTHER, 3, 1, OTHER);
        CHECK.tokens("\"\\\\\n\"", 0, 1, OTHER, 1, 1, OTHER, 2, 1, OTHER, 4, 1, OTHER);
        CHECK.tokens("'\\\n'a'", 0, 1, OTHER, 1, 1, OTHER, 3, 3, CHARACTER);
        CHECK.tokens("\"\\\t\"", 0, 4, TEXT);
        CHECK.tokens("\"\\\u000b\\\f\\\r\\ \"", 0, 10, TEXT);
    }

    private static void openQuotes() {
        CHECK.sentence("(a quote without such an end is a token by itself)");
        CHECK.tokens("'", 0, 1, OTHER);
        CHECK.tokens("\"", 0, 1, OTHER);
        CHECK.tokens("'a b", 0, 1, OTHER, 1, 1, NAME, 3, 1, NAME);
        CHECK.tokens("\"1+2", 0, 1, OTHER, 1, 1, NUMBER, 2, 1, SIGN, 3, 1, NUMBER);
        CHECK.tokens("L'a", 0, 1, NAME, 1, 1, OTHER, 2, 1, NAME);
        CHECK.tokens("L\"", 0, 1, NAME, 1, 1, OTHER);
        CHECK.tokens("'\"a\"", 0, 1, OTHER, 1, 3, TEXT);
        CHECK.tokens("\"'a'", 0, 1, OTHER, 1, 3, CHARACTER);
        CHECK.tokens("'\"", 0, 1, OTHER, 1, 1, OTHER);
        CHECK.tokens("'\\'L\\'", 0, 1, OTHER, 1, 1, OTHER, 2, 1, OTHER, 3, 1, NAME, 4, 1, OTHER, 5, 1, OTHER);
        CHECK.tokens("\"\\\"\n\"b\"", 0, 1, OTHER, 1, 1, OTHER, 2, 1, OTHER, 4, 3, TEXT);
        CHECK.tokens("'\\' \"x\"", 0, 1, OTHER, 1, 1, OTHER, 2, 1, OTHER, 4, 3, TEXT);
        CHECK.tokens("\"\\\" 'x'", 0, 1, OTHER, 1, 1, OTHER, 2, 1, OTHER, 4, 3, CHARACTER);
        CHECK.count("\"\\".repeat(2044), 4088);
        CHECK.count("'\\".repeat(2044), 4088);
    }

    private static void longestSign() {
        CHECK.sentence("the longest of the SIGNS");
        for (String sign : SIGNS) {
            CHECK.tokens(sign, 0, sign.length(), SIGN);
            CHECK.tokens("a" + sign, 0, 1, NAME, 1, sign.length(), SIGN);
            CHECK.tokens(sign + "a", 0, sign.length(), SIGN, sign.length(), 1, NAME);
        }
        String bytes = "#[](){}.&*+-~!/%<>^|?:;=,";
        for (int i = 0; i < bytes.length() * bytes.length() * bytes.length(); i++) {
            int size = bytes.length();
            char first = bytes.charAt(i / size / size);
            char second = bytes.charAt(i / size % size);
            char third = bytes.charAt(i % size);
            String text = "" + first + second + third;
            String longest = longestOf(text);
            ConditionMill mill = Check.mill(text);
            CHECK.due("length of the first token of " + text, mill.token(0, 1), longest.length());
            CHECK.due("kind of the first token of " + text, mill.token(0, 2), SIGN);
        }
    }

    private static String longestOf(String text) {
        String longest = "";
        for (String sign : SIGNS) {
            if (text.startsWith(sign) && sign.length() > longest.length()) {
                longest = sign;
            }
        }
        return longest;
    }

    private static void anyOther() {
        CHECK.sentence("any other byte.");
        for (int b = 0; b < 256; b++) {
            boolean isBlank = b == 32 || b >= 9 && b <= 13;
            boolean isWord = b >= 'a' && b <= 'z' || b >= 'A' && b <= 'Z' || b >= '0' && b <= '9' || b == 95;
            boolean isSign = !longestOf(String.valueOf((char) b)).isEmpty();
            if (!isBlank && !isWord && !isSign) {
                kind(b, OTHER);
            }
            if (!isBlank && !isWord && !isSign && b != 34 && b != 39) {
                CHECK.tokens("" + (char) b + (char) b, 0, 1, OTHER, 1, 1, OTHER);
                CHECK.tokens("a" + (char) b + "1", 0, 1, NAME, 1, 1, OTHER, 2, 1, NUMBER);
            }
        }
    }
}
