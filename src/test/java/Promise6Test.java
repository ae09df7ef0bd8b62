/** Promise 6: isPlain tells whether the value has no sign. */
public final class Promise6Test {
    private static final Check CHECK = new Check();

    public static void main(String[] args) {
        numbers();
        operators();
        whatIsNotNeeded();
        latest();
        CHECK.end();
    }

    private static void numbers() {
        String[] signed = {"", "l", "L", "ll", "LL"};
        String[] plain = {"u", "U", "ul", "uL", "Ul", "UL", "ull", "uLL", "Ull", "ULL", "lu", "lU", "Lu", "LU", "llu",
            "llU", "LLu", "LLU"};
        for (String tail : signed) {
            CHECK.signed("12" + tail, 12);
            CHECK.signed("012" + tail, 10);
            CHECK.signed("0x12" + tail, 18);
            CHECK.signed("0" + tail, 0);
            CHECK.plain("0xffffffffffffffff" + tail, -1);
            CHECK.plain("0x8000000000000000" + tail, Long.MIN_VALUE);
            CHECK.plain("01777777777777777777777" + tail, -1);
            CHECK.plain("01000000000000000000000" + tail, Long.MIN_VALUE);
            CHECK.signed("0x7fffffffffffffff" + tail, Long.MAX_VALUE);
        }
        for (String tail : plain) {
            CHECK.plain("12" + tail, 12);
            CHECK.plain("012" + tail, 10);
            CHECK.plain("0x12" + tail, 18);
            CHECK.plain("0" + tail, 0);
            CHECK.plain("0xffffffffffffffff" + tail, -1);
            CHECK.plain("18446744073709551615" + tail, -1);
            CHECK.plain("9223372036854775808" + tail, Long.MIN_VALUE);
        }
        CHECK.signed("u", 0);
        CHECK.signed("'u'", 117);
        CHECK.signed("'\u00ff'", 255);
    }

    private static void operators() {
        String[] both = {"+", "-", "*", "/", "%", "&", "|", "^"};
        String[] truths = {"<", ">", "<=", ">=", "==", "!=", "&&", "||"};
        for (String sign : both) {
            kind("8" + sign + "3", false);
            kind("8u" + sign + "3", true);
            kind("8" + sign + "3u", true);
            kind("8u" + sign + "3u", true);
        }
        for (String sign : truths) {
            kind("8" + sign + "3", false);
            kind("8u" + sign + "3", false);
            kind("8" + sign + "3u", false);
            kind("8u" + sign + "3u", false);
        }
        String[] shifts = {"<<", ">>"};
        for (String sign : shifts) {
            kind("8" + sign + "3u", false);
            kind("8u" + sign + "3", true);
            kind("8u" + sign + "3u", true);
            kind("8" + sign + "3", false);
        }
        kind("-1u", true);
        kind("+1u", true);
        kind("~1u", true);
        kind("!1u", false);
        kind("!!1u", false);
        kind("(1u)", true);
        kind("1u ? 2 : 3", false);
        kind("1 ? 2u : 3", true);
        kind("1 ? 2 : 3u", true);
        kind("0 ? 2u : 3", true);
        kind("0 ? 2 : 3u", true);
        kind("0 ? 2 : 3", false);
        kind("0 ? 2u < 1 : 3", false);
        kind("1 ? 2 : 0 ? 3u : 4", true);
        kind("1 ? 0 ? 2u : 3 : 4", true);
    }

    /** A part that is not needed counts for the kind. */
    private static void whatIsNotNeeded() {
        kind("1 ? 2 : 1/0u", true);
        kind("0 ? 1u%0 : 2", true);
        kind("1 ? 2 : (0 && 1/0u)", false);
        kind("1 ? 2 : 1u << 1/0", true);
        kind("1 ? 2 : 1 << 1/0u", false);
        kind("1 ? 2 : (1/0 ? 3 : 4u)", true);
        kind("1 ? 2 : -(3u/0)", true);
        kind("1 ? 2 : !(3u/0)", false);
        CHECK.signed("(1 ? -1 : 1/0u) > 0", 1);
        CHECK.plain("(0 ? 0u : -2) / 2", Long.MAX_VALUE);
        CHECK.plain("(0 ? 0u : -2) >> 1", Long.MAX_VALUE);
    }

    private static void kind(String text, boolean plain) {
        ConditionMill mill = Check.mill(text);
        CHECK.due("reckon() of " + text, mill.reckon(), 0);
        CHECK.due("isPlain() of " + text, mill.isPlain(), plain);
    }

    private static void latest() {
        ConditionMill mill = Check.mill("5u");
        CHECK.due("isPlain() before any reckon()", mill.isPlain(), false);
        mill.reckon();
        CHECK.due("isPlain()", mill.isPlain(), true);
        Check.feed(mill, ">1");
        CHECK.due("isPlain() before reckon()", mill.isPlain(), true);
        mill.reckon();
        CHECK.due("isPlain() of a comparison", mill.isPlain(), false);
        mill.cut(2);
        mill.reckon();
        CHECK.due("isPlain() of 5u again", mill.isPlain(), true);
        Check.feed(mill, "u");
        mill.reckon();
        CHECK.due("isPlain() behind fault 11", mill.isPlain(), false);
        mill.cut(2);
        mill.reckon();
        CHECK.due("isPlain() behind fault 11 and reckon()", mill.isPlain(), true);
        Check.feed(mill, "/0");
        mill.reckon();
        CHECK.due("isPlain() behind fault 12", mill.isPlain(), false);
    }
}
