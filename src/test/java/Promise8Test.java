/** Promise 8: token tells place, length and kind of a token. */
public final class Promise8Test {
    private static final Check CHECK = new Check();

    public static void main(String[] args) {
        names();
        numbers();
        quotes();
        openQuotes();
        signs();
        others();
        wrongArguments();
        CHECK.end();
    }

    private static void names() {
        CHECK.tokens("  ab_9 L _", 2, 4, 1, 7, 1, 1, 9, 1, 1);
        CHECK.tokens("AZaz09_", 0, 7, 1);
        CHECK.tokens("a$b", 0, 1, 1, 1, 1, 6, 2, 1, 1);
        CHECK.tokens("a.b", 0, 1, 1, 1, 1, 5, 2, 1, 1);
        CHECK.tokens("@[`{", 0, 1, 6, 1, 1, 5, 2, 1, 6, 3, 1, 5);
        CHECK.tokens("\u00e9a", 0, 1, 6, 1, 1, 1);
    }

    private static void numbers() {
        CHECK.tokens("12 0x1F 1.5 .5 1..2", 0, 2, 2, 3, 4, 2, 8, 3, 2, 12, 2, 2, 15, 4, 2);
        CHECK.tokens("1e+5 1E-5 1p+5 1P-5", 0, 4, 2, 5, 4, 2, 10, 4, 2, 15, 4, 2);
        CHECK.tokens("1e++5", 0, 3, 2, 3, 1, 5, 4, 1, 2);
        CHECK.tokens("1+5", 0, 1, 2, 1, 1, 5, 2, 1, 2);
        CHECK.tokens("1f+5", 0, 2, 2, 2, 1, 5, 3, 1, 2);
        CHECK.tokens("0xe+1", 0, 5, 2);
        CHECK.tokens("e+1", 0, 1, 1, 1, 1, 5, 2, 1, 2);
        CHECK.tokens("1_a.Z9", 0, 6, 2);
        CHECK.tokens(".e+1", 0, 1, 5, 1, 1, 1, 2, 1, 5, 3, 1, 2);
        CHECK.tokens("..5", 0, 1, 5, 1, 2, 2);
        CHECK.tokens("...5", 0, 3, 5, 3, 1, 2);
        CHECK.tokens("....5", 0, 3, 5, 3, 2, 2);
        CHECK.tokens(".", 0, 1, 5);
        CHECK.tokens("..", 0, 1, 5, 1, 1, 5);
        CHECK.tokens("1.", 0, 2, 2);
        CHECK.tokens("a.5", 0, 1, 1, 1, 2, 2);
        CHECK.tokens("1L'a'", 0, 2, 2, 2, 3, 4);
        CHECK.tokens("1e", 0, 2, 2);
        CHECK.tokens("1e+", 0, 3, 2);
        CHECK.tokens("1e +", 0, 2, 2, 3, 1, 5);
        CHECK.tokens(".5.5e-.", 0, 7, 2);
    }

    private static void quotes() {
        CHECK.tokens("\"ab\" 'c'", 0, 4, 3, 5, 3, 4);
        CHECK.tokens("L\"ab\" L'c'", 0, 5, 3, 6, 4, 4);
        CHECK.tokens("l\"ab\"", 0, 1, 1, 1, 4, 3);
        CHECK.tokens("aL\"ab\"", 0, 2, 1, 2, 4, 3);
        CHECK.tokens("L \"ab\"", 0, 1, 1, 2, 4, 3);
        CHECK.tokens("LL'a'", 0, 2, 1, 2, 3, 4);
        CHECK.tokens("\"\" ''", 0, 2, 3, 3, 2, 4);
        CHECK.tokens("\"'\" '\"'", 0, 3, 3, 4, 3, 4);
        CHECK.tokens("\"a\\\"b\"", 0, 6, 3);
        CHECK.tokens("'\\''", 0, 4, 4);
        CHECK.tokens("'\\\\'", 0, 4, 4);
        CHECK.tokens("'\\\\''", 0, 4, 4, 4, 1, 6);
        CHECK.tokens("\"\\\\\"\"", 0, 4, 3, 4, 1, 6);
        CHECK.tokens("\"\t\u000b\f\r\0\u00ff\"", 0, 8, 3);
        CHECK.tokens("\"a\"b\"c\"", 0, 3, 3, 3, 1, 1, 4, 3, 3);
        CHECK.tokens("\"\\\r\"", 0, 4, 3);
    }

    private static void openQuotes() {
        CHECK.tokens("'", 0, 1, 6);
        CHECK.tokens("\"", 0, 1, 6);
        CHECK.tokens("'a", 0, 1, 6, 1, 1, 1);
        CHECK.tokens("L'a", 0, 1, 1, 1, 1, 6, 2, 1, 1);
        CHECK.tokens("L\"", 0, 1, 1, 1, 1, 6);
        CHECK.tokens("'\n'", 0, 1, 6, 2, 1, 6);
        CHECK.tokens("\"a\nb\"", 0, 1, 6, 1, 1, 1, 3, 1, 1, 4, 1, 6);
        CHECK.tokens("\"\\\n\"", 0, 1, 6, 1, 1, 6, 3, 1, 6);
        CHECK.tokens("'\\'", 0, 1, 6, 1, 1, 6, 2, 1, 6);
        CHECK.tokens("'\\", 0, 1, 6, 1, 1, 6);
        CHECK.tokens("\"\\\"", 0, 1, 6, 1, 1, 6, 2, 1, 6);
        CHECK.tokens("'\"a\"", 0, 1, 6, 1, 3, 3);
        CHECK.tokens("\"'a'", 0, 1, 6, 1, 3, 4);
        CHECK.tokens("'\\''\\'a'", 0, 4, 4, 4, 1, 6, 5, 3, 4);
        // A quote open to its line's end says nothing of the next line, nor of the other quote.
        CHECK.tokens("\"\\\"\n\"b\"", 0, 1, 6, 1, 1, 6, 2, 1, 6, 4, 3, 3);
        CHECK.tokens("'\\'\n'b'", 0, 1, 6, 1, 1, 6, 2, 1, 6, 4, 3, 4);
        CHECK.tokens("'\\' \"x\"", 0, 1, 6, 1, 1, 6, 2, 1, 6, 4, 3, 3);
        CHECK.tokens("\"\\\" 'x'", 0, 1, 6, 1, 1, 6, 2, 1, 6, 4, 3, 4);
        CHECK.tokens("'\"\n\"'\"", 0, 1, 6, 1, 1, 6, 3, 3, 3);
        CHECK.tokens("\"\n'a'\n'", 0, 1, 6, 2, 3, 4, 6, 1, 6);
    }

    private static void signs() {
        String[] signs = {"...", "<<=", ">>=", "->", "++", "--", "<<", ">>", "<=", ">=", "==", "!=", "&&", "||", "*=",
            "/=", "%=", "+=", "-=", "&=", "^=", "|=", "##", "#", "[", "]", "(", ")", "{", "}", ".", "&", "*", "+",
            "-", "~", "!", "/", "%", "<", ">", "^", "|", "?", ":", ";", "=", ","};
        for (String sign : signs) {
            CHECK.tokens(sign, 0, sign.length(), 5);
            CHECK.tokens(" " + sign + " ", 1, sign.length(), 5);
            CHECK.tokens("a" + sign + "b", 0, 1, 1, 1, sign.length(), 5, 1 + sign.length(), 1, 1);
        }
        CHECK.tokens("+++", 0, 2, 5, 2, 1, 5);
        CHECK.tokens("---", 0, 2, 5, 2, 1, 5);
        CHECK.tokens("-->", 0, 2, 5, 2, 1, 5);
        CHECK.tokens("->>", 0, 2, 5, 2, 1, 5);
        CHECK.tokens("<<<=", 0, 2, 5, 2, 2, 5);
        CHECK.tokens("<<==", 0, 3, 5, 3, 1, 5);
        CHECK.tokens(">>>=", 0, 2, 5, 2, 2, 5);
        CHECK.tokens("===", 0, 2, 5, 2, 1, 5);
        CHECK.tokens("!==", 0, 2, 5, 2, 1, 5);
        CHECK.tokens("&&=", 0, 2, 5, 2, 1, 5);
        CHECK.tokens("|||", 0, 2, 5, 2, 1, 5);
        CHECK.tokens("###", 0, 2, 5, 2, 1, 5);
        CHECK.tokens("<:", 0, 1, 5, 1, 1, 5);
        CHECK.tokens("**", 0, 1, 5, 1, 1, 5);
        CHECK.tokens("^^", 0, 1, 5, 1, 1, 5);
        CHECK.tokens("!!", 0, 1, 5, 1, 1, 5);
        CHECK.tokens("~=", 0, 1, 5, 1, 1, 5);
        CHECK.tokens("//", 0, 1, 5, 1, 1, 5);
        CHECK.tokens("/*", 0, 1, 5, 1, 1, 5);
        CHECK.tokens("<>", 0, 1, 5, 1, 1, 5);
        CHECK.tokens("=<", 0, 1, 5, 1, 1, 5);
        CHECK.tokens("+-", 0, 1, 5, 1, 1, 5);
        CHECK.tokens("< <", 0, 1, 5, 2, 1, 5);
        CHECK.tokens("..=", 0, 1, 5, 1, 1, 5, 2, 1, 5);
        CHECK.tokens("::", 0, 1, 5, 1, 1, 5);
    }

    /** Every byte by itself. */
    private static void others() {
        String blanks = " \t\n\u000b\f\r";
        String signs = "#[](){}.&*+-~!/%<>^|?:;=,";
        for (char b = 0; b < 256; b++) {
            String text = String.valueOf(b);
            boolean letter = b >= 'a' && b <= 'z' || b >= 'A' && b <= 'Z' || b == '_';
            if (blanks.indexOf(b) >= 0) {
                CHECK.tokens(text);
            } else if (letter) {
                CHECK.tokens(text, 0, 1, 1);
            } else if (b >= '0' && b <= '9') {
                CHECK.tokens(text, 0, 1, 2);
            } else {
                CHECK.tokens(text, 0, 1, signs.indexOf(b) >= 0 ? 5 : 6);
            }
        }
        CHECK.tokens("@@", 0, 1, 6, 1, 1, 6);
    }

    private static void wrongArguments() {
        ConditionMill mill = Check.mill("a b");
        int[] wrong = {-1, 3, 4, Integer.MIN_VALUE, Integer.MAX_VALUE};
        for (int what : wrong) {
            CHECK.due("token(0, " + what + ")", mill.token(0, what), ConditionMill.BAD);
        }
        int[] none = {-1, 2, 3, 4095, 4096, 4097, Integer.MIN_VALUE, Integer.MAX_VALUE};
        for (int i : none) {
            for (int what = 0; what < 3; what++) {
                CHECK.due("token(" + i + ", " + what + ")", mill.token(i, what), ConditionMill.BAD);
            }
        }
        CHECK.due("token(1, 0)", mill.token(1, 0), 2);
        mill.cut(2);
        CHECK.due("token(1, 0) behind cut", mill.token(1, 0), ConditionMill.BAD);
        ConditionMill full = Check.mill("(".repeat(4056));
        CHECK.due("token(4055, 0)", full.token(4055, 0), 4055);
        CHECK.due("token(4055, 1)", full.token(4055, 1), 1);
        CHECK.due("token(4056, 0)", full.token(4056, 0), ConditionMill.BAD);
        CHECK.due("token(4095, 0)", full.token(4095, 0), ConditionMill.BAD);
        CHECK.due("token(4096, 0)", full.token(4096, 0), ConditionMill.BAD);
    }
}
