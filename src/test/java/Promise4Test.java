/** Promise 4: reckon tells 0 or the fault. */
public final class Promise4Test {
    private static final Check CHECK = new Check();

    public static void main(String[] args) {
        noConditions();
        numbersThatAreNone();
        charactersThatAreNone();
        signsThatAreNone();
        nesting();
        divisions();
        divisionsThatAreNotNeeded();
        manyTokens();
        again();
        CHECK.end();
    }

    private static void noConditions() {
        CHECK.none("", " ", "\t\n\u000b\f\r ", "()", "(", ")", "1 2", "a b", "defined a", "a(1)", "(1", "1)", "((1)",
                "(1))", "1 +", "* 1", "/ 1", "1 * * 1", "1 + * 1", "1 & & 1", "1 < < 1", "1 = = 1", "1 ! 2",
                "1 ~ 2", "1 !", "-", "!", "~", "+", "1 -", "(-)", "( ) 1", "1 ( )", "(1) 2", "(1)(2)");
        CHECK.none("?", ":", "1 ?", "1 ? 2", "1 ? 2 :", "1 ? : 2", "? 1 : 2", "1 : 2", "1 ? 2 : 3 : 4", "1 ?: 2",
                "1 ? 2 ? 3 : 4", "(1 ? 2) : 3", "1 ? (2 : 3)", "1 ? 2 : (3", "1 ? 2 ; 3", "1 ? 2 3 : 4",
                "1 ? 2 : 3 4", "(1 ? 2 : )", "(1 ? )", "1 + ? 2 : 3", "1 ? 2 + : 3", "(?)", "(:)");
        // A fault of form is told wherever it stands, and before a division.
        CHECK.none("0 && (", "1 || )", "1 ? 2 : 3 4", "0 && 1 2", "1/0 2", "1/0 +", "(1/0", "1/0 )", "0 && 08",
                "1 ? 2 : 18446744073709551616", "1 || 9223372036854775808", "1/0 + 1.5", "1 ? 2 : 'ab'",
                "0 ? \"a\" : 1", "1/0 + \"\"");
    }

    private static void numbersThatAreNone() {
        CHECK.none("1.5", ".5", "1.", "1e5", "1e+5", "0x1p3", "0x", "0X", "0xg", "0xu", "08", "09", "018", "0b1", "1a",
                "0_1", "1_", "12f", "1uu", "1UU", "1lul", "1lL", "1Ll", "1ulL", "1lll", "1LLL", "1llul", "1uul",
                "1ulu", "1llL", "1u1", "1l1", "0xe+1", "0xE-1", "0x1e+1", "08u", "1ux", "0x1.", "0.", "00.0",
                "1lulu", "1i64", "0x0x1");
        CHECK.none("18446744073709551616", "18446744073709551616u", "18446744073709551620u", "99999999999999999999u",
                "100000000000000000000u", "184467440737095516150u", "9223372036854775808", "9223372036854775808l",
                "18446744073709551615", "18446744073709551615LL", "-9223372036854775808", "0x10000000000000000",
                "0x10000000000000000u", "0xfffffffffffffffff", "02000000000000000000000", "03777777777777777777777",
                "02000000000000000000000u", "010000000000000000000000");
    }

    private static void charactersThatAreNone() {
        CHECK.none("''", "'ab'", "L'a'", "L'\\n'", "'\\e'", "'\\x'", "'\\x41'", "'\\01'", "'\\00'", "'\\1'", "'\\N'",
                "'\\\n'", "'a", "a'", "'", "'\n'", "'\\'", "'\\", "\"a\"", "\"\"", "L\"a\"", "\"", "'\\nn'", "'n\\n'",
                "'\\ '", "'a\\'", "u'a'", "'\\\\\\'");
    }

    private static void signsThatAreNone() {
        CHECK.none("--1", "++1", "1--1", "1++", "1---1", "1 += 1", "1 -= 1", "1 *= 1", "1 /= 1", "1 %= 1", "1 &= 1",
                "1 |= 1", "1 ^= 1", "1 <<= 1", "1 >>= 1", "1 -> 1", "1 . 1", "1 ... 1", "1 , 1", "1 ; 1", "1 = 1",
                "1 # 1", "1 ## 1", "[1]", "{1}", "1 [ 1", "1 { 1", "1 @ 1", "$", "1 ` 1", "1 \\ 1", "1\\\n+1",
                "1 /* c */", "1 // c", "1 \0", "1 \u0080", "\u00ff", "1 === 1", "1 !== 1", "1 &&& 1", "1 ||| 1",
                "1 >>> 1", "*1", "&1", "#if 1", "a.b", "...");
    }

    private static String nest(int n, String open, String middle, String close) {
        return open.repeat(n) + middle + close.repeat(n);
    }

    private static void nesting() {
        CHECK.signed(nest(60, "(", "7", ")"), 7);
        CHECK.none(nest(61, "(", "7", ")"));
        CHECK.signed(nest(60, "- ", "7", ""), 7);
        CHECK.none(nest(61, "- ", "7", ""));
        CHECK.signed(nest(60, "!", "7", ""), 1);
        CHECK.none(nest(61, "!", "7", ""));
        CHECK.signed(nest(30, "-(", "7", ")"), 7);
        CHECK.none(nest(30, "-(", "+7", ")"), nest(30, "~(", "(7)", ")"));
        CHECK.signed(nest(60, "0?1:", "7", ""), 7);
        CHECK.none(nest(61, "0?1:", "7", ""), nest(60, "0?1:", "+7", ""), nest(60, "0?1:", "(7)", ""));
        CHECK.signed(nest(60, "1?", "7", ":2"), 7);
        CHECK.none(nest(61, "1?", "7", ":2"), nest(60, "1?", "(7)", ":2"), nest(60, "1?", "!7", ":2"));
        // What is not needed is nested all the same.
        CHECK.none("0 && " + nest(61, "(", "7", ")"), "1 ? 2 : " + nest(60, "(", "7", ")"),
                "1 ? " + nest(60, "(", "7", ")") + " : 2", "1/0 + " + nest(61, "!", "7", ""));
        CHECK.signed("1 ? 2 : " + nest(59, "(", "7", ")"), 2);
        CHECK.signed("1 ? " + nest(59, "(", "7", ")") + ": 2", 7);
        // Before the ? and behind an end nothing of it counts.
        CHECK.signed(nest(60, "(", "7", ")") + " ? 3 : 4", 3);
        CHECK.signed(nest(60, "(", "7", ")") + "+" + nest(60, "(", "8", ")"), 15);
        CHECK.signed(nest(60, "-", "7", "").replace("-", "- ") + "*" + nest(60, "~", "8", ""), 56);
        CHECK.signed(nest(58, "(", "-1+(2)*!3?-4:+5", ")"), -4);
        CHECK.none(nest(59, "(", "-1+(2)*!3?-4:+5", ")"), nest(58, "(", "-1+(2)*!3?-(4):+5", ")"));
        CHECK.signed("(1 ? 2 : 3) + " + nest(60, "(", "8", ")"), 10);
        CHECK.signed("(" + nest(59, "0?1:", "7", "") + ")+" + nest(60, "!", "7", ""), 8);
        CHECK.none("(" + nest(60, "0?1:", "7", "") + ")");
        // Between the nests every operator may wait.
        String all = "0||1&&0|0^7&1==1<2<<1+1*(";
        CHECK.signed(all.repeat(60) + "1" + ")".repeat(60), 1);
        CHECK.signed(all.repeat(60) + all.substring(0, all.length() - 1) + "1" + ")".repeat(60), 1);
        CHECK.none(all.repeat(61) + "1" + ")".repeat(61));
        CHECK.none("(".repeat(4048), "-~".repeat(2024), "1?".repeat(2024), "0?0:".repeat(1012), "1?2:".repeat(100) + "3");
    }

    private static void divisions() {
        String[] texts = {"1/0", "1%0", "0/0", "0%0", "1/0u", "1u/0", "1u%0u", "1/a", "1/(2-2)", "1/!1", "1/'\\0'",
            "1/0x0", "-1/0", "!(1/0)", "(1/0) && 0", "(1/0) || 1", "1/0 ? 2 : 3", "1 && 1/0", "0 || 1/0",
            "1 ? 1/0 : 2", "0 ? 2 : 1/0", "1/0 - 1/0", "0 * (1/0)", "0 & 1/0", "1 | 1%0", "0 && 1 || 1/0",
            "(1 || 0) && 1/0", "1 ? 0 ? 2 : 3%0 : 4", "0 ? 1 : 1 ? 2/0 : 3", "1/(0 && 1)", "1/(1 ? 0 : 1)",
            "(0 && 1/0) + 1/0", "1 ? 1 && 1/0 : 0", "5 / (3 / 4)", "0 ? 1/0 : 1/0", "(1 ? 2 : 3) / 0",
            "(1 || 1/0) / 0", "1/0/0", "1 << 1/0", "1 == 1/0", "1 < 1%0", "7 / (1 << 64 << 63 << 1)"};
        for (String text : texts) {
            CHECK.fault(text, 12);
        }
    }

    private static void divisionsThatAreNotNeeded() {
        CHECK.signed("0 && 1/0", 0);
        CHECK.signed("1 || 1%0", 1);
        CHECK.signed("0 ? 1/0 : 7", 7);
        CHECK.signed("1 ? 7 : 1/0", 7);
        CHECK.signed("0 && 1/0 && 1/0", 0);
        CHECK.signed("1 || 1/0 || 1/0", 1);
        CHECK.signed("1 || 1/0 && 1/0", 1);
        CHECK.signed("0 && (1 || 1/0) || 3", 1);
        CHECK.signed("0 && (1 && 1/0)", 0);
        CHECK.signed("0 && (0 || 1/0)", 0);
        CHECK.signed("0 && (1 ? 1/0 : 1/0)", 0);
        CHECK.signed("1 || (0 ? 2 : 3/0)", 1);
        CHECK.signed("1 ? 2 : (1 ? 3/0 : 4)", 2);
        CHECK.signed("1 ? 2 : 0 ? 1/0 : 1/0", 2);
        CHECK.signed("0 ? 1 ? 1/0 : 2/0 : 9", 9);
        CHECK.signed("0 ? 1/0 : 1 ? 8 : 1/0", 8);
        CHECK.signed("(0 && 1/0) ? 1/0 : 4", 4);
        CHECK.signed("0 && 1/0 ? 1/0 : 4", 4);
        CHECK.signed("0 && 1/0 | 2", 0);
        CHECK.signed("0 && -(1/0)", 0);
        CHECK.signed("0 && !(1 % 0) == 1", 0);
        CHECK.signed("1 ? 0 && 1/0 : 1/0", 0);
        CHECK.signed("3 + (1 || 1/0)", 4);
        CHECK.signed("0u && 1/0", 0);
        CHECK.signed("'\\0' && 1/0", 0);
        CHECK.signed("2 || 1/0", 1);
    }

    /** As long as a text can get that is still asked for its value within 512 calls. */
    private static void manyTokens() {
        CHECK.signed("1+".repeat(2035) + "1", 2036);
        CHECK.signed("0+".repeat(2035) + "7 ", 7);
        CHECK.signed("1" + "0".repeat(10) + " ".repeat(4061), 10000000000L);
        CHECK.signed("0".repeat(4071) + "7", 7);
        CHECK.signed("0x" + "0".repeat(4069) + "7", 7);
        CHECK.signed("a".repeat(4072), 0);
        CHECK.none("1".repeat(4048), "1 ".repeat(2024), "\"\\".repeat(2024), "'".repeat(4047), "@".repeat(4048));
    }

    private static void again() {
        ConditionMill mill = Check.mill("1/0");
        CHECK.due("reckon()", mill.reckon(), 12);
        CHECK.due("reckon() again", mill.reckon(), 12);
        mill.cut(2);
        CHECK.due("reckon() of 1/", mill.reckon(), 11);
        mill.cut(1);
        CHECK.due("reckon() of 1", mill.reckon(), 0);
        CHECK.due("reckon() of 1 again", mill.reckon(), 0);
        CHECK.due("value() of 1", mill.value(), 1);
        Check.feed(mill, "||(1?((0&&");
        CHECK.due("reckon() of an open text", mill.reckon(), 11);
        mill.cut(1);
        Check.feed(mill, "/0");
        CHECK.due("reckon() behind an open text", mill.reckon(), 12);
    }
}
