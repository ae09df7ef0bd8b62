/** The boundary cases of "Terms", faults, sentence by sentence. */
public final class FaultEdgesTest {
    private static final Check CHECK = new Check();
    private static final int MOST_NESTED = 60;

    public static void main(String[] args) {
        noCondition();
        nestedBrackets();
        nestedFronts();
        nestedChoices();
        mixedNests();
        countsForAllWithin();
        endsOfNests();
        fromTheQuestionMark();
        nestsThatAreNotNeeded();
        manyWaiting();
        tooManyBits();
        zerosInFront();
        the64thBitOfBase10();
        division();
        divisionWhereNeeded();
        conditionFirst();
        CHECK.end();
    }

    private static String nest(int n, String open, String middle, String close) {
        return open.repeat(n) + middle + close.repeat(n);
    }

    private static void noCondition() {
        CHECK.sentence("11 CONDITION: the text is none;");
        CHECK.none("", " ", "\t\n\u000b\f\r", "1 2", "a a", "1 a", "'a' 'a'", "+", "1 +", "* 1", "1 * * 2", "1 + * 2", "1 < < 2",
                "1 = 2", "1 , 2", "1 ; 2", "1 @ 2", "@", "\"a\"", "'", "\\", "\0", "\u00ff", "# 1", "## 1", "1 ... 2",
                "1 -> 2", "1 . 2", "1 <<= 2", "1 >>= 2", "1 += 2", "1 -= 2", "1 *= 2", "1 /= 2", "1 %= 2", "1 &= 2",
                "1 ^= 2", "1 |= 2", "1 ++ 2", "1 -- 2", "[1]", "{1}", "1 & & 2", "1 | | 2", "1 = = 2", "1 ! = 2", "1 < = 2",
                "1 &&& 2", "1 ||| 2", "1 === 2", "1 <<< 2", "1 >>> 2", "1 !== 2", "1 ** 2", "1 // 2", "1 /**/");
        CHECK.signed("1\n+\t2\u000b*\f3\r", 7);
    }

    private static void nestedBrackets() {
        CHECK.sentence("( ), operators in front and ? : are more than 60 in one another: ( )");
        CHECK.signed(nest(MOST_NESTED - 1, "(", "7", ")"), 7);
        CHECK.signed(nest(MOST_NESTED, "(", "7", ")"), 7);
        CHECK.none(nest(MOST_NESTED + 1, "(", "7", ")"), nest(MOST_NESTED + 2, "(", "7", ")"), nest(200, "(", "7", ")"),
                nest(2000, "(", "7", ")"), "(".repeat(4048));
        CHECK.signed("(7)+".repeat(1000) + "(7)", 7007);
    }

    private static void nestedFronts() {
        CHECK.sentence("( ), operators in front and ? : are more than 60 in one another: operators in front");
        String[] fronts = {"+ ", "- ", "~", "!"};
        long[] values = {7, 7, 7, 1};
        for (int i = 0; i < fronts.length; i++) {
            CHECK.signed(nest(MOST_NESTED, fronts[i], "7", ""), values[i]);
            CHECK.none(nest(MOST_NESTED + 1, fronts[i], "7", ""), nest(1000, fronts[i], "7", ""));
        }
        CHECK.signed("-7+".repeat(1000) + "-7", -7007);
    }

    private static void nestedChoices() {
        CHECK.sentence("( ), operators in front and ? : are more than 60 in one another: ? :");
        CHECK.signed(nest(MOST_NESTED, "0?1:", "7", ""), 7);
        CHECK.none(nest(MOST_NESTED + 1, "0?1:", "7", ""), nest(1000, "0?1:", "7", ""));
        CHECK.signed(nest(MOST_NESTED, "1?", "7", ":2"), 7);
        CHECK.none(nest(MOST_NESTED + 1, "1?", "7", ":2"), nest(1000, "1?", "7", ":2"));
        CHECK.signed(nest(30, "1?0?1:", "7", ":2"), 7);
        CHECK.none(nest(30, "1?0?1:", "0?1:7", ":2"), nest(30, "1?0?1:", "1?7:2", ":2"));
    }

    /** Two of the three in turn, and one more of either. */
    private static void mixedNests() {
        CHECK.sentence("( ), operators in front and ? : are more than 60 in one another: by turns");
        CHECK.signed(nest(30, "-(", "7", ")"), 7);
        CHECK.none(nest(30, "-(", "-7", ")"), nest(30, "-(", "(7)", ")"), nest(30, "-(", "0?1:7", ")"));
        CHECK.signed(nest(30, "(0?1:", "7", ")"), 7);
        CHECK.none(nest(30, "(0?1:", "-7", ")"), nest(30, "(0?1:", "(7)", ")"), nest(30, "(0?1:", "0?1:7", ")"));
        CHECK.signed(nest(20, "1?-(", "7", "):3"), 7);
        CHECK.none(nest(20, "1?-(", "-7", "):3"), nest(20, "1?-(", "(7)", "):3"), nest(20, "1?-(", "1?7:2", "):3"));
    }

    private static void countsForAllWithin() {
        CHECK.sentence("(each counts for all that stands within it,");
        String deep = nest(MOST_NESTED - 1, "(", "7", ")");
        String deeper = nest(MOST_NESTED, "(", "7", ")");
        CHECK.signed("(" + deep + ")", 7);
        CHECK.signed("(1+2*" + deep + ")", 15);
        CHECK.signed("(" + deep + "*2+1)", 15);
        CHECK.signed("(" + deep + "+" + deep + ")", 14);
        CHECK.none("(" + deeper + ")", "(1+2*" + deeper + ")", "(" + deeper + "*2+1)", "(1+" + deeper + ")", "(1)+(2+" + deeper + ")");
        CHECK.signed("-" + deep, -7);
        CHECK.none("-" + deeper, "1+-" + deeper, "- -" + deep, "!(" + deep + ")");
    }

    private static void endsOfNests() {
        CHECK.sentence("each counts for all that stands within it: not for what is behind its end");
        String deeper = nest(MOST_NESTED, "(", "7", ")");
        CHECK.signed(deeper + "+" + deeper, 14);
        CHECK.signed("(1)+" + deeper, 8);
        CHECK.signed(deeper + "+(1)", 8);
        String[] signs = {"*", "/", "%", "+", "-", "<<", ">>", "<", ">", "<=", ">=", "==", "!=", "&", "^", "|", "&&", "||"};
        for (String sign : signs) {
            ConditionMill mill = Check.mill("-5" + sign + deeper);
            CHECK.due("reckon() of -5" + sign + deeper, mill.reckon(), 0);
            CHECK.none("-5" + sign + "-" + deeper);
        }
        CHECK.signed(nest(MOST_NESTED, "~", "7", "") + "+" + nest(MOST_NESTED, "!", "7", ""), 8);
        CHECK.signed("(1?2:3)+" + deeper, 9);
        CHECK.signed("(" + nest(MOST_NESTED - 1, "0?1:", "7", "") + ")+" + deeper, 14);
    }

    private static void fromTheQuestionMark() {
        CHECK.sentence("? for what is behind it up to the end of its last part)");
        String deep = nest(MOST_NESTED - 1, "(", "7", ")");
        String deeper = nest(MOST_NESTED, "(", "7", ")");
        CHECK.signed(deeper + "?2:3", 2);
        CHECK.signed("0||" + deeper + "?2:3", 2);
        CHECK.signed("-1?" + deep + ":" + deep, 7);
        CHECK.signed("0?" + deep + ":1+" + deep, 8);
        CHECK.none("1?" + deeper + ":2", "1?2:" + deeper, "0?" + deeper + ":2", "0?2:" + deeper, "0?2:1+" + deeper,
                "0?2:3||" + deeper, "1?2?3:4:" + deeper);
        // The middle's own ? : is at its end before the last part.
        CHECK.signed("1?1?3:4:" + deep, 3);
        CHECK.signed("0?1?3:4:" + deep, 7);
        CHECK.none("0?1:0?1:" + deep, "0?1:1?" + deep + ":2", "1?1?" + deep + ":2:3", "1?0?1:" + deep + ":3");
        CHECK.signed("(0?1:2)?" + deep + ":3", 7);
        CHECK.none("((0?1:2)?" + deep + ":3)");
    }

    private static void nestsThatAreNotNeeded() {
        CHECK.sentence("are more than 60 in one another: where it is not needed");
        String deeper = nest(MOST_NESTED, "(", "7", ")");
        CHECK.signed("0&&" + deeper, 0);
        CHECK.signed("1||" + deeper, 1);
        CHECK.none("0&&(" + deeper + ")", "1||-" + deeper, "1?2:" + deeper, "0?" + deeper + ":2");
    }

    private static void manyWaiting() {
        CHECK.sentence("are more than 60 in one another: with every operator between them");
        String all = "0||1&&0|0^7&1==1<2<<1+1*";
        CHECK.signed((all + "(").repeat(MOST_NESTED) + all + "1" + ")".repeat(MOST_NESTED), 1);
        CHECK.signed((all + "-").repeat(MOST_NESTED) + "1", 1);
        CHECK.signed("1?".repeat(MOST_NESTED) + all + "1" + (":" + all + "1").repeat(MOST_NESTED), 1);
        CHECK.none((all + "(").repeat(MOST_NESTED + 1) + all + "1" + ")".repeat(MOST_NESTED + 1));
    }

    private static void tooManyBits() {
        CHECK.sentence("or a number needs more than 64 bits,");
        CHECK.plain("18446744073709551615u", -1);
        CHECK.none("18446744073709551616u", "18446744073709551617u", "18446744073709551625u", "18446744073709551620u",
                "20000000000000000000u", "27670116110564327424u", "36893488147419103232u", "99999999999999999999u",
                "100000000000000000000u", "184467440737095516150u", "340282366920938463463374607431768211456u",
                "18446744073709551616", "18446744073709551616ull");
        CHECK.plain("18446744073709551609u", -7);
        CHECK.plain("18446744073709551599u", -17);
        CHECK.plain("0xffffffffffffffff", -1);
        CHECK.none("0x10000000000000000", "0x10000000000000000u", "0xfffffffffffffffff", "0x1ffffffffffffffff",
                "0x100000000000000000000000000000000");
        CHECK.plain("01777777777777777777777", -1);
        CHECK.none("02000000000000000000000", "02000000000000000000000u", "03777777777777777777777", "07777777777777777777777",
                "010000000000000000000000", "04000000000000000000000", "0" + "7".repeat(100));
        CHECK.none("1".repeat(4000), "0x" + "f".repeat(4000), "9".repeat(4000) + "u");
    }

    private static void zerosInFront() {
        CHECK.sentence("or a number needs more than 64 bits: zeros in front need none");
        CHECK.plain("0x" + "0".repeat(100) + "ffffffffffffffff", -1);
        CHECK.plain("0".repeat(100) + "1777777777777777777777", -1);
        CHECK.signed("0x" + "0".repeat(4000) + "7", 7);
        CHECK.signed("0".repeat(4000) + "7", 7);
        CHECK.none("0x" + "0".repeat(100) + "10000000000000000", "0".repeat(100) + "2000000000000000000000");
    }

    private static void the64thBitOfBase10() {
        CHECK.sentence("or, without u, of base 10 the 64th.");
        CHECK.signed("9223372036854775807", Long.MAX_VALUE);
        CHECK.signed("9223372036854775807ll", Long.MAX_VALUE);
        CHECK.signed("-9223372036854775807", -Long.MAX_VALUE);
        CHECK.none("9223372036854775808", "9223372036854775808l", "9223372036854775808LL", "9223372036854775809",
                "9999999999999999999", "10000000000000000000", "18446744073709551615", "18446744073709551615l",
                "-9223372036854775808", "9223372036854775808+0u", "0u+9223372036854775808");
        CHECK.plain("9223372036854775808u", Long.MIN_VALUE);
        CHECK.plain("9223372036854775808lu", Long.MIN_VALUE);
        CHECK.plain("9223372036854775808ull", Long.MIN_VALUE);
        CHECK.plain("18446744073709551615LLU", -1);
        CHECK.plain("0x8000000000000000", Long.MIN_VALUE);
        CHECK.plain("01000000000000000000000", Long.MIN_VALUE);
    }

    private static void division() {
        CHECK.sentence("12 DIVISION: by 0,");
        String[] zeros = {"0", "0u", "0x0", "00", "a", "'\\0'", "'\0'", "(0)", "-0", "+0", "!1", "~-1", "(1-1)", "(0u*5)",
            "(9223372036854775807*2+2)", "(18446744073709551615u+1)", "(1<<63<<1)", "(4294967296*4294967296)", "(1>2)",
            "(0?1:0)", "(1&&0)", "(0||0)", "(1/2)", "(4%2)"};
        String[] lefts = {"0", "1", "1u", "-1", "a", "(-9223372036854775807-1)"};
        for (String zero : zeros) {
            for (String left : lefts) {
                CHECK.fault(left + "/" + zero, 12);
                CHECK.fault(left + "%" + zero, 12);
            }
        }
        CHECK.signed("1/4294967296", 0);
        CHECK.plain("1/0x8000000000000000", 0);
        CHECK.signed("0/1", 0);
        CHECK.signed("0%1", 0);
    }

    private static void divisionWhereNeeded() {
        CHECK.sentence("where it is needed");
        String[] needed = {"1 && 1/0", "0 || 1/0", "1 ? 1/0 : 2", "0 ? 2 : 1/0", "1/0 ? 2 : 3", "1/0 && 0", "1/0 || 1",
            "0 * (1/0)", "0 & 1/0", "-(1/0)", "!(1/0)", "(1/0)", "1/0/0", "1 << 1/0", "1/0 == 1/0", "0 && 1 || 1/0",
            "(1 || 0) && 1/0", "(0 && 1/0) + 1/0", "(1 || 1/0) / 0", "0 ? 1/0 : 1/0", "1 ? 1/0 : 1/0",
            "1 ? 0 ? 2 : 3%0 : 4", "0 ? 1 : 1 ? 2/0 : 3", "(0 ? 1/0 : 1) / 0", "1 || 1/0 ? 1/0 : 2", "0 && 1/0 ? 2 : 1/0",
            "0 || 0 && 1/0 || 1/0", "1 && (0 || 1/0)", "4294967296 && 1/0", "0x8000000000000000 ? 1/0 : 2"};
        for (String text : needed) {
            CHECK.fault(text, 12);
        }
        CHECK.signed("0 && 1/0", 0);
        CHECK.signed("1 || 1/0", 1);
        CHECK.signed("0 ? 1/0 : 2", 2);
        CHECK.signed("1 ? 2 : 1/0", 2);
    }

    private static void conditionFirst() {
        CHECK.sentence("(11 first).");
        CHECK.none("1/0 2", "1/0 +", "(1/0", "1/0 )", "1/0 ? 2", "1/0 : 2", "1/0 + 1.5", "1/0 + \"\"", "1/0 + 08", "1/0 @",
                "1/0 + 18446744073709551616u", "1/0 + 9223372036854775808", "1/0 + 'ab'", "1%0 = 1",
                "1/0 + " + nest(MOST_NESTED + 1, "(", "7", ")"), "1/0" + " ".repeat(4000) + "@");
        CHECK.fault("1/0 + " + nest(MOST_NESTED, "(", "7", ")"), 12);
        CHECK.fault(nest(MOST_NESTED, "(", "1/0", ")"), 12);
    }
}
