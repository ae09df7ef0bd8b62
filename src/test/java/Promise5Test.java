/** Promise 5: value is what the latest reckon() came to. */
public final class Promise5Test {
    private static final Check CHECK = new Check();
    private static final long MIN = Long.MIN_VALUE;

    public static void main(String[] args) {
        operands();
        operatorsInFront();
        operators();
        withoutSign();
        shifts();
        strengths();
        choices();
        latest();
        CHECK.end();
    }

    private static void operands() {
        CHECK.signed("a", 0);
        CHECK.signed("_9z", 0);
        CHECK.signed("defined", 0);
        CHECK.signed("L", 0);
        CHECK.signed("true + 5", 5);
        CHECK.signed("0", 0);
        CHECK.signed("00", 0);
        CHECK.signed("10", 10);
        CHECK.signed("010", 8);
        CHECK.signed("0777", 511);
        CHECK.signed("0x10", 16);
        CHECK.signed("0XaBcDeF", 0xabcdef);
        CHECK.signed("0x9aF", 0x9af);
        CHECK.signed("0xA", 10);
        CHECK.signed("0xF", 15);
        CHECK.signed("0xa", 10);
        CHECK.signed("0xf", 15);
        CHECK.signed("9223372036854775807", Long.MAX_VALUE);
        CHECK.signed("0777777777777777777777", Long.MAX_VALUE);
        CHECK.signed("0x7fffffffffffffff", Long.MAX_VALUE);
        CHECK.signed("000000000000000000000000000000012", 10);
        CHECK.signed("0x00000000000000000000000000000012", 18);
        String[] characters = {"\\n", "\\t", "\\r", "\\a", "\\b", "\\f", "\\v", "\\0", "\\\\", "\\'", "\\\"", "\\?",
            "a", " ", "\t", "\"", "\0", "\u0080", "\u00ff", "\r", "0", "("};
        int[] values = {10, 9, 13, 7, 8, 12, 11, 0, 92, 39, 34, 63, 97, 32, 9, 34, 0, 128, 255, 13, 48, 40};
        for (int i = 0; i < values.length; i++) {
            CHECK.signed("'" + characters[i] + "'", values[i]);
        }
    }

    private static void operatorsInFront() {
        CHECK.signed("-5", -5);
        CHECK.signed("+5", 5);
        CHECK.signed("~5", -6);
        CHECK.signed("!5", 0);
        CHECK.signed("!0", 1);
        CHECK.signed("- - -5", -5);
        CHECK.signed("-~5", 6);
        CHECK.signed("~-5", 4);
        CHECK.signed("!-5", 0);
        CHECK.signed("-!0", -1);
        CHECK.signed("-(5)", -5);
        CHECK.signed("-(2+3)*2", -10);
        CHECK.signed("1- -1", 2);
        CHECK.signed("1-+1", 0);
        CHECK.signed("1+-1", 0);
        CHECK.signed("2*-3", -6);
        CHECK.signed("-(-9223372036854775807-1)", MIN);
    }

    private static void operators() {
        CHECK.signed("7+3", 10);
        CHECK.signed("7-3", 4);
        CHECK.signed("7*3", 21);
        CHECK.signed("7/3", 2);
        CHECK.signed("7%3", 1);
        CHECK.signed("-7/3", -2);
        CHECK.signed("-7%3", -1);
        CHECK.signed("7/-3", -2);
        CHECK.signed("7%-3", 1);
        CHECK.signed("-7/-3", 2);
        CHECK.signed("-7%-3", -1);
        CHECK.signed("12&10", 8);
        CHECK.signed("12|10", 14);
        CHECK.signed("12^10", 6);
        CHECK.signed("9223372036854775807+1", MIN);
        CHECK.signed("-9223372036854775807-2", Long.MAX_VALUE);
        CHECK.signed("9223372036854775807*2", -2);
        CHECK.signed("(-9223372036854775807-1)/-1", MIN);
        CHECK.signed("(-9223372036854775807-1)%-1", 0);
        int[][] pairs = {{1, 2}, {2, 1}, {2, 2}, {-1, 1}, {1, -1}, {-2, -1}, {0, 0}, {0, 3}, {3, 0}};
        for (int[] pair : pairs) {
            compare(pair[0], pair[1]);
        }
    }

    private static void compare(int a, int b) {
        String left = a + " ";
        String right = " " + b;
        CHECK.signed(left + "<" + right, a < b ? 1 : 0);
        CHECK.signed(left + ">" + right, a > b ? 1 : 0);
        CHECK.signed(left + "<=" + right, a <= b ? 1 : 0);
        CHECK.signed(left + ">=" + right, a >= b ? 1 : 0);
        CHECK.signed(left + "==" + right, a == b ? 1 : 0);
        CHECK.signed(left + "!=" + right, a != b ? 1 : 0);
        CHECK.signed(left + "&&" + right, a != 0 && b != 0 ? 1 : 0);
        CHECK.signed(left + "||" + right, a != 0 || b != 0 ? 1 : 0);
    }

    private static void withoutSign() {
        CHECK.plain("-1/2u", Long.MAX_VALUE);
        CHECK.plain("-1%10u", 5);
        CHECK.plain("-1/10u", 1844674407370955161L);
        CHECK.plain("18446744073709551615u/18446744073709551614u", 1);
        CHECK.plain("18446744073709551614u/18446744073709551615u", 0);
        CHECK.plain("18446744073709551615u%18446744073709551614u", 1);
        CHECK.plain("18446744073709551614u%18446744073709551615u", -2);
        CHECK.plain("18446744073709551615u/9223372036854775807", 2);
        CHECK.plain("18446744073709551615u%9223372036854775807", 1);
        CHECK.plain("18446744073709551615u/1", -1);
        CHECK.plain("18446744073709551615u/-1", 1);
        CHECK.plain("7/-2u", 0);
        CHECK.plain("7%-2u", 7);
        CHECK.plain("7u/2", 3);
        CHECK.plain("18446744073709551615u+1", 0);
        CHECK.plain("0u-1", -1);
        CHECK.plain("18446744073709551615u*2", -2);
        CHECK.signed("-1>0u", 1);
        CHECK.signed("-1<0u", 0);
        CHECK.signed("-1>=0u", 1);
        CHECK.signed("-1<=0u", 0);
        CHECK.signed("0u<-1", 1);
        CHECK.signed("-1==18446744073709551615u", 1);
        CHECK.signed("-1!=18446744073709551615u", 0);
        CHECK.signed("-1<0x8000000000000000", 0);
        CHECK.signed("(1?-1:0u)>0", 1);
        CHECK.signed("(-1>0u)>-1", 1);
    }

    private static void shifts() {
        CHECK.signed("1<<3", 8);
        CHECK.signed("1<<63", MIN);
        CHECK.signed("1<<64", 1);
        CHECK.signed("1<<65", 2);
        CHECK.signed("1<<-1", MIN);
        CHECK.signed("1<<18446744073709551615u", MIN);
        CHECK.signed("-8>>1", -4);
        CHECK.signed("-8>>1u", -4);
        CHECK.signed("-8>>63", -1);
        CHECK.signed("-8>>64", -8);
        CHECK.signed("-8>>-1", -1);
        CHECK.signed("8>>65", 4);
        CHECK.plain("~0u>>63", 1);
        CHECK.plain("~0u>>64", -1);
        CHECK.plain("~0u>>-1", 1);
        CHECK.plain("1u<<63", MIN);
        CHECK.plain("0x8000000000000000>>1", 1L << 62);
        CHECK.signed("1<<4294967296", 1);
    }

    private static void strengths() {
        CHECK.signed("1+2*3", 7);
        CHECK.signed("2*3+1", 7);
        CHECK.signed("(1+2)*3", 9);
        CHECK.signed("10-4-3", 3);
        CHECK.signed("100/10/5", 2);
        CHECK.signed("100/(10/5)", 50);
        CHECK.signed("7%4*2", 6);
        CHECK.signed("2*7%4", 2);
        CHECK.signed("1<<2<<3", 32);
        CHECK.signed("256>>2>>3", 8);
        CHECK.signed("1<<2+1", 8);
        CHECK.signed("3<2<1", 1);
        CHECK.signed("3>2>1", 0);
        CHECK.signed("5<1<<3", 1);
        CHECK.signed("2==2==2", 0);
        CHECK.signed("1==3>2", 1);
        CHECK.signed("4&6==6", 0);
        CHECK.signed("7^3&1", 6);
        CHECK.signed("1|2^3", 1);
        CHECK.signed("4|1^1", 4);
        CHECK.signed("2&&1|0", 1);
        CHECK.signed("1||0&&0", 1);
        CHECK.signed("0&&0||1", 1);
        CHECK.signed("!1==0", 1);
        CHECK.signed("~1+1", -1);
        CHECK.signed("-2*3", -6);
        CHECK.signed("1|2^3&4==4", 3);
        CHECK.signed("1 - 2 ? 3 : 4", 3);
        CHECK.signed("0||1&&0|0^7&1==1<2<<1+1*2", 1);
    }

    private static void choices() {
        CHECK.signed("1?2:3", 2);
        CHECK.signed("0?2:3", 3);
        CHECK.signed("-1?2:3", 2);
        CHECK.signed("0||1?2:3", 2);
        CHECK.signed("1?2:3+4", 2);
        CHECK.signed("0?2:3+4", 7);
        CHECK.signed("0?2:0||5", 1);
        CHECK.signed("1?0?3:4:5", 4);
        CHECK.signed("1?2:0?3:4", 2);
        CHECK.signed("0?2:0?3:4", 4);
        CHECK.signed("0?2:1?3:4", 3);
        CHECK.signed("(1?2:0)?3:4", 3);
        CHECK.signed("(0?2:0)?3:4", 4);
        CHECK.signed("1?(2):(3)", 2);
        CHECK.signed("1?1?1?7:2:3:4", 7);
        CHECK.signed("(1?2:3)*(0?4:5)", 10);
        CHECK.signed("2*(0?1:3)-1", 5);
    }

    private static void latest() {
        ConditionMill mill = Check.mill("5");
        CHECK.due("value() before any reckon()", mill.value(), 0);
        mill.reckon();
        CHECK.due("value()", mill.value(), 5);
        CHECK.due("value() again", mill.value(), 5);
        Check.feed(mill, "+1");
        CHECK.due("value() before reckon()", mill.value(), 5);
        mill.tokens();
        mill.token(1, 0);
        CHECK.due("value() behind tokens()", mill.value(), 5);
        mill.reckon();
        CHECK.due("value() behind reckon()", mill.value(), 6);
        Check.feed(mill, "/0");
        mill.reckon();
        CHECK.due("value() behind fault 12", mill.value(), 0);
        mill.cut(3);
        mill.reckon();
        CHECK.due("value() behind a fault and reckon()", mill.value(), 6);
        mill.cut(2);
        mill.reckon();
        CHECK.due("value() behind fault 11", mill.value(), 0);
    }
}
