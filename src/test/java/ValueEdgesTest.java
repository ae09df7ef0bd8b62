/** The boundary cases of "Terms", values, sentence by sentence. */
public final class ValueEdgesTest {
    private static final Check CHECK = new Check();
    private static final long MIN = Long.MIN_VALUE, MAX = Long.MAX_VALUE;
    private static final String LEAST = "(-9223372036854775807-1)", MOST = "9223372036854775807";
    private static final String PLAIN_MOST = "18446744073709551615u";

    public static void main(String[] args) {
        runningOver();
        runningOverWithoutSign();
        plainNumbers();
        bothCountWithout();
        lastTwoOfAChoice();
        truths();
        kindOfAShift();
        lowestSixBits();
        shiftToTheRight();
        cutTowardZero();
        cutTowardZeroWithoutSign();
        whatIsNotNeeded();
        formOfWhatIsNotNeeded();
        CHECK.end();
    }

    private static void runningOver() {
        CHECK.sentence("VALUES have 64 bits, running over, with a sign or without one: with one");
        CHECK.signed(MOST + "+1", MIN);
        CHECK.signed(MOST + "+" + MOST, -2);
        CHECK.signed(LEAST, MIN);
        CHECK.signed(LEAST + "-1", MAX);
        CHECK.signed(LEAST + "+" + LEAST, 0);
        CHECK.signed("-" + LEAST, MIN);
        CHECK.signed("~" + LEAST, MAX);
        CHECK.signed("~" + MOST, MIN);
        CHECK.signed(MOST + "*2", -2);
        CHECK.signed(LEAST + "*-1", MIN);
        CHECK.signed("4294967296*4294967296", 0);
        CHECK.signed("3037000500*3037000500", -9223372036709301616L);
        CHECK.signed(LEAST + "/-1", MIN);
        CHECK.signed(LEAST + "%-1", 0);
        CHECK.signed("1<<63", MIN);
        CHECK.signed("2<<63", 0);
        CHECK.signed(MOST + "+1<0", 1);
    }

    private static void runningOverWithoutSign() {
        CHECK.sentence("VALUES have 64 bits, running over, with a sign or without one: without one");
        CHECK.plain(PLAIN_MOST + "+1", 0);
        CHECK.plain("0u-1", -1);
        CHECK.plain("-1u", -1);
        CHECK.plain("-0u", 0);
        CHECK.plain("~0u", -1);
        CHECK.plain(PLAIN_MOST + "*" + PLAIN_MOST, 1);
        CHECK.plain(PLAIN_MOST + "*2", -2);
        CHECK.plain("4294967296u*4294967296", 0);
        CHECK.plain("9223372036854775808u*2", 0);
        CHECK.plain("3u<<63", MIN);
        CHECK.signed("0u-1>" + MOST, 1);
    }

    private static void plainNumbers() {
        CHECK.sentence("(a u behind, or a number of base 8 or 16 that needs the 64th bit)");
        CHECK.plain("0u", 0);
        CHECK.plain("0U", 0);
        CHECK.plain("00u", 0);
        CHECK.plain("0x0u", 0);
        CHECK.plain("9223372036854775808u", MIN);
        CHECK.plain(PLAIN_MOST, -1);
        CHECK.signed("0x7fffffffffffffff", MAX);
        CHECK.plain("0x8000000000000000", MIN);
        CHECK.plain("0xffffffffffffffff", -1);
        CHECK.plain("0xffffffffffffffffll", -1);
        CHECK.signed("0777777777777777777777", MAX);
        CHECK.plain("01000000000000000000000", MIN);
        CHECK.plain("01777777777777777777777", -1);
        CHECK.plain("01777777777777777777777L", -1);
        CHECK.signed(MOST, MAX);
        CHECK.signed("1l", 1);
        CHECK.signed("1LL", 1);
        CHECK.signed("0xffffffff", 4294967295L);
        CHECK.signed("0x80000000", 2147483648L);
        CHECK.signed("4294967296", 4294967296L);
        CHECK.signed("a", 0);
        CHECK.signed("'\u00ff'", 255);
        CHECK.signed("'u'", 117);
    }

    private static void bothCountWithout() {
        CHECK.sentence("Of two kinds both count without");
        String[] signs = {"+", "-", "*", "/", "%", "&", "|", "^"};
        for (String sign : signs) {
            kind("8" + sign + "3", false);
            kind("8u" + sign + "3", true);
            kind("8" + sign + "3u", true);
            kind("8u" + sign + "3u", true);
        }
        CHECK.signed("-1 < 0", 1);
        CHECK.signed("-1 < 0u", 0);
        CHECK.signed("-1 > 0u", 1);
        CHECK.signed("0u < -1", 1);
        CHECK.signed("-1 <= 0u", 0);
        CHECK.signed("-1 >= 0u", 1);
        CHECK.signed("-1 == " + PLAIN_MOST, 1);
        CHECK.signed("-1 != " + PLAIN_MOST, 0);
        CHECK.signed("-1 >= " + PLAIN_MOST, 1);
        CHECK.signed("-1 > " + PLAIN_MOST, 0);
        CHECK.signed(MOST + " < 0x8000000000000000", 1);
        CHECK.signed(LEAST + " < 0x8000000000000000", 0);
        CHECK.signed(LEAST + " <= 0x8000000000000000", 1);
        CHECK.signed(LEAST + " > 0u", 1);
        CHECK.plain("-1/2u", MAX);
        CHECK.plain("-1%10u", 5);
        CHECK.plain("10u/-1", 0);
        CHECK.plain("10u%-1", 10);
        // Only the operator that has both sides brings them together.
        CHECK.signed("-1 < 0 + 0u*0 == 0", 1);
        CHECK.signed("(-1 < 0) + (0u > 1)", 1);
        CHECK.plain("-2/2 + 0u", -1);
        CHECK.plain("(-2 + 0u)/2", MAX);
    }

    private static void lastTwoOfAChoice() {
        CHECK.sentence("also of the last two of ? :");
        kind("1 ? 2 : 3", false);
        kind("1 ? 2u : 3", true);
        kind("1 ? 2 : 3u", true);
        kind("0 ? 2u : 3", true);
        kind("0 ? 2 : 3u", true);
        kind("0 ? 2u : 3u", true);
        kind("1u ? 2 : 3", false);
        kind("0u ? 2 : 3", false);
        kind("1 ? 2 : 0 ? 3u : 4", true);
        kind("1 ? 0 ? 2u : 3 : 4", true);
        kind("1 ? 2 : (3u < 4)", false);
        kind("1 ? 2 : 1/0u", true);
        CHECK.plain("0 ? 0u : -1", -1);
        CHECK.signed("(1 ? -1 : 0u) > 0", 1);
        CHECK.signed("(1u ? -1 : 0) > 0", 0);
        CHECK.plain("(0 ? 0u : -2) / 2", MAX);
        CHECK.plain("(0 ? 0u : -2) >> 1", MAX);
    }

    private static void truths() {
        CHECK.sentence("comparisons, !, && and || give 1 or 0 with a sign");
        String[] signs = {"<", ">", "<=", ">=", "==", "!=", "&&", "||"};
        for (String sign : signs) {
            kind("8u" + sign + "3", false);
            kind("8" + sign + "3u", false);
            kind("8u" + sign + "3u", false);
            kind("0u" + sign + "0u", false);
        }
        CHECK.signed("!5u", 0);
        CHECK.signed("!0u", 1);
        CHECK.signed("!0x8000000000000000", 0);
        CHECK.signed("!4294967296", 0);
        CHECK.signed("5u && 7u", 1);
        CHECK.signed("5u || 7u", 1);
        CHECK.signed("0u || 7", 1);
        CHECK.signed("0 || 0", 0);
        CHECK.signed("7 && 0u", 0);
        CHECK.signed("4294967296 && 0x8000000000000000", 1);
        CHECK.signed("0 || 4294967296", 1);
        CHECK.signed("(5u == 5u) - 2 < 0", 1);
        CHECK.signed("!0u - 2 < 0", 1);
        CHECK.signed("(1u && 1u) - 2 < 0", 1);
        CHECK.signed("(1u || 1u) - 2 < 0", 1);
    }

    private static void kindOfAShift() {
        CHECK.sentence("shifts have the kind of the left side");
        kind("8 << 1u", false);
        kind("8 >> 1u", false);
        kind("8u << 1", true);
        kind("8u >> 1", true);
        kind("8u << 1u", true);
        kind("8u >> 1u", true);
        kind("8 << 0xffffffffffffffff", false);
        CHECK.signed("-8 >> 1u", -4);
        CHECK.signed("(-8 << 0u) < 0", 1);
        CHECK.signed("(-8 + 0u << 0) < 0", 0);
    }

    private static void lowestSixBits() {
        CHECK.sentence("and go by the lowest six bits");
        CHECK.signed("1 << 0", 1);
        CHECK.signed("1 << 31", 1L << 31);
        CHECK.signed("1 << 32", 1L << 32);
        CHECK.signed("1 << 62", 1L << 62);
        CHECK.signed("1 << 63", MIN);
        CHECK.signed("1 << 64", 1);
        CHECK.signed("1 << 65", 2);
        CHECK.signed("1 << 127", MIN);
        CHECK.signed("1 << 128", 1);
        CHECK.signed("1 << -1", MIN);
        CHECK.signed("1 << -63", 2);
        CHECK.signed("1 << -64", 1);
        CHECK.signed("1 << 4294967297", 2);
        CHECK.signed("1 << " + PLAIN_MOST, MIN);
        CHECK.signed("1 << " + LEAST, 1);
        CHECK.signed("8 >> 63", 0);
        CHECK.signed("8 >> 64", 8);
        CHECK.signed("8 >> 65", 4);
        CHECK.signed("8 >> -64", 8);
        CHECK.signed("8 >> -1", 0);
        CHECK.plain("~0u >> 64", -1);
        CHECK.plain("~0u >> -1", 1);
        CHECK.plain("~0u << 127", MIN);
    }

    private static void shiftToTheRight() {
        CHECK.sentence("(to the right the sign comes in, zeros without one)");
        CHECK.signed("-1 >> 1", -1);
        CHECK.signed("-8 >> 1", -4);
        CHECK.signed("-9 >> 1", -5);
        CHECK.signed("-8 >> 63", -1);
        CHECK.signed(LEAST + " >> 63", -1);
        CHECK.signed(LEAST + " >> 1", -(1L << 62));
        CHECK.signed(MOST + " >> 63", 0);
        CHECK.signed(MOST + " >> 62", 1);
        CHECK.plain("~0u >> 1", MAX);
        CHECK.plain("~0u >> 63", 1);
        CHECK.plain("0x8000000000000000 >> 63", 1);
        CHECK.plain("0x8000000000000000 >> 1", 1L << 62);
        CHECK.plain("~0u >> 0", -1);
        CHECK.plain("-1 + 0u >> 1", MAX);
    }

    private static void cutTowardZero() {
        CHECK.sentence("/ and % are cut toward 0");
        CHECK.signed("7/3", 2);
        CHECK.signed("7%3", 1);
        CHECK.signed("-7/3", -2);
        CHECK.signed("-7%3", -1);
        CHECK.signed("7/-3", -2);
        CHECK.signed("7%-3", 1);
        CHECK.signed("-7/-3", 2);
        CHECK.signed("-7%-3", -1);
        CHECK.signed("-1/2", 0);
        CHECK.signed("-1%2", -1);
        CHECK.signed("1/-2", 0);
        CHECK.signed("0/-5", 0);
        CHECK.signed("0%-5", 0);
        CHECK.signed("-6/3", -2);
        CHECK.signed("-6%3", 0);
        CHECK.signed(LEAST + "/1", MIN);
        CHECK.signed(LEAST + "/2", MIN / 2);
        CHECK.signed(LEAST + "/" + LEAST, 1);
        CHECK.signed("1/" + LEAST, 0);
        CHECK.signed("-1%" + LEAST, -1);
        CHECK.signed(MOST + "/" + LEAST, 0);
        CHECK.signed(MOST + "%" + LEAST, MAX);
        CHECK.signed(LEAST + "%" + MOST, -1);
    }

    private static void cutTowardZeroWithoutSign() {
        CHECK.sentence("/ and % are cut toward 0: without a sign");
        CHECK.plain("7u/3", 2);
        CHECK.plain("7u%3", 1);
        CHECK.plain(PLAIN_MOST + "/1", -1);
        CHECK.plain(PLAIN_MOST + "%1", 0);
        CHECK.plain(PLAIN_MOST + "/2", MAX);
        CHECK.plain(PLAIN_MOST + "%2", 1);
        CHECK.plain(PLAIN_MOST + "/3", 6148914691236517205L);
        CHECK.plain(PLAIN_MOST + "/10", 1844674407370955161L);
        CHECK.plain(PLAIN_MOST + "%10", 5);
        CHECK.plain(PLAIN_MOST + "/" + MOST, 2);
        CHECK.plain(PLAIN_MOST + "%" + MOST, 1);
        CHECK.plain(PLAIN_MOST + "/9223372036854775808u", 1);
        CHECK.plain(PLAIN_MOST + "%9223372036854775808u", MAX);
        CHECK.plain(PLAIN_MOST + "/" + PLAIN_MOST, 1);
        CHECK.plain(PLAIN_MOST + "%" + PLAIN_MOST, 0);
        CHECK.plain("18446744073709551614u/" + PLAIN_MOST, 0);
        CHECK.plain("18446744073709551614u%" + PLAIN_MOST, -2);
        CHECK.plain("18446744073709551614u/" + MOST, 2);
        CHECK.plain("18446744073709551613u/" + MOST, 1);
        CHECK.plain("18446744073709551613u%" + MOST, MAX - 1);
        CHECK.plain("9223372036854775808u/" + MOST, 1);
        CHECK.plain("9223372036854775808u%" + MOST, 1);
        CHECK.plain(MOST + "/9223372036854775808u", 0);
        CHECK.plain(MOST + "%9223372036854775808u", MAX);
        CHECK.plain("1u/" + PLAIN_MOST, 0);
        CHECK.plain("0u/1", 0);
    }

    private static void whatIsNotNeeded() {
        CHECK.sentence("What ? :, && and || don't need is looked at as to its form alone.");
        CHECK.signed("0 && 1/0", 0);
        CHECK.signed("0 && 1%0", 0);
        CHECK.signed("1 || 1/0", 1);
        CHECK.signed("-1 || 1/0", 1);
        CHECK.signed("1 || 1%0", 1);
        CHECK.signed("0u && 1/0", 0);
        CHECK.signed("4294967296 || 1/0", 1);
        CHECK.signed("0x8000000000000000 || 1/0", 1);
        CHECK.signed("0 ? 1/0 : 7", 7);
        CHECK.signed("1 ? 7 : 1/0", 7);
        CHECK.signed("4294967296 ? 7 : 1/0", 7);
        CHECK.signed("0 && 1/0 && 1/0", 0);
        CHECK.signed("1 || 1/0 || 1/0", 1);
        CHECK.signed("1 || 1/0 && 1/0", 1);
        CHECK.signed("0 && (1 && 1/0)", 0);
        CHECK.signed("0 && (0 || 1/0)", 0);
        CHECK.signed("1 || (0 ? 2 : 3/0)", 1);
        CHECK.signed("1 ? 2 : 0 ? 1/0 : 1/0", 2);
        CHECK.signed("0 ? 1 ? 1/0 : 2/0 : 9", 9);
        CHECK.signed("0 ? 1/0 : 1 ? 8 : 1/0", 8);
        CHECK.signed("0 && -(1/0) || 3", 1);
        CHECK.signed("0 && (1/0 ? 1/0 : 1/0)", 0);
        CHECK.signed("0 && 1/0 | 2", 0);
        CHECK.signed("0 && 1/0 ? 1/0 : 4", 4);
    }

    private static void formOfWhatIsNotNeeded() {
        CHECK.sentence("What ? :, && and || don't need is looked at as to its form alone: a wrong form is told");
        CHECK.none("0 && ", "0 && ()", "0 && 1 2", "0 && (1", "0 && 1)", "1 || ", "1 || * 1", "1 || @", "1 || \"a\"",
                "1 || 'ab'", "0 && 08", "0 && 1.5", "1 ? 2 : ", "1 ? 2 : 3 4", "1 ? 2 : \"\"", "0 ? : 1", "0 ? 1 2 : 3",
                "0 ? L'a' : 3", "0 ? 1lL : 3", "1 || ++1", "0 && 1 = 1", "1 || 18446744073709551616u",
                "0 && 9223372036854775808", "1 ? 2 : 0x10000000000000000");
    }

    private static void kind(String text, boolean plain) {
        ConditionMill mill = Check.mill(text);
        CHECK.due("reckon() of " + text, mill.reckon(), 0);
        CHECK.due("isPlain() of " + text, mill.isPlain(), plain);
    }
}
