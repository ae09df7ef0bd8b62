/** The boundary cases of "Terms", a condition, sentence by sentence. */
public final class ConditionEdgesTest {
    private static final Check CHECK = new Check();
    private static final String[][] LEVELS = {{"||"}, {"&&"}, {"|"}, {"^"}, {"&"}, {"==", "!="}, {"<", ">", "<=", ">="},
        {"<<", ">>"}, {"+", "-"}, {"*", "/", "%"}};
    private static final String[] FRONTS = {"+", "-", "~", "!"};

    public static void main(String[] args) {
        names();
        digits();
        base8();
        base16();
        tails();
        bothLAlike();
        charactersWithoutL();
        charactersOfOneByte();
        escapes();
        brackets();
        risingStrength();
        choiceIsWeakest();
        choiceFromTheRight();
        fromTheLeft();
        inFront();
        CHECK.end();
    }

    private static void names() {
        CHECK.sentence("A CONDITION has NAMES, all of which are 0");
        String[] names = {"a", "Z", "_", "a1", "L", "u", "x0", "defined", "true", "false", "and", "if", "NULL", "u1l"};
        for (String name : names) {
            CHECK.signed(name, 0);
            CHECK.signed(name + "+7", 7);
            CHECK.signed("!" + name, 1);
            CHECK.fault("1/" + name, 12);
        }
        CHECK.none("defined a", "defined(a)", "a b", "a(1)", "a.b", "a->b");
    }

    private static void digits() {
        CHECK.sentence("NUMBERS: digits");
        for (int i = 0; i <= 9; i++) {
            CHECK.signed("" + i, i);
            CHECK.signed("1" + i, 10 + i);
        }
        CHECK.signed("9876543210", 9876543210L);
        CHECK.none("1.", "1.0", ".1", "1e1", "1e+1", "1p-1", "1a", "1_0", "1x1", "12f", "1..2", "1b", "1_");
    }

    private static void base8() {
        CHECK.sentence("(base 8 behind a 0,");
        CHECK.signed("0", 0);
        CHECK.signed("00", 0);
        CHECK.signed("07", 7);
        CHECK.signed("010", 8);
        CHECK.signed("0017", 15);
        CHECK.signed("0123456701234567", 0x53977053977L);
        CHECK.signed("10", 10);
        CHECK.signed("100", 100);
        CHECK.none("08", "09", "018", "0079", "00x1", "0a", "0.", "0_", "0b1", "08u", "09l");
    }

    private static void base16() {
        CHECK.sentence("base 16 behind 0x or 0X)");
        CHECK.signed("0x0", 0);
        CHECK.signed("0X0", 0);
        CHECK.signed("0x10", 16);
        CHECK.signed("0X10", 16);
        CHECK.signed("0x0123456789", 0x123456789L);
        CHECK.signed("0xabcdef", 0xabcdef);
        CHECK.signed("0xABCDEF", 0xabcdef);
        CHECK.signed("0x09", 9);
        CHECK.none("0x", "0X", "0xg", "0xG", "0xu", "0xl", "0x_", "0x.", "0x1.", "0xx1", "1x1", "x1 1", "0x1g", "0x1p1",
                "0xe+1", "0xE-1", "0x 1");
        CHECK.signed("0xe +1", 15);
        CHECK.signed("0xf+1", 16);
    }

    /** Every row of up to four of u, U, l and L behind a number. */
    private static void tails() {
        CHECK.sentence("perhaps with u and l or ll behind, in either order, in upper or lower case");
        String letters = "uUlL";
        for (int length = 0; length <= 4; length++) {
            for (int turn = 0; turn < 1 << 2 * length; turn++) {
                StringBuilder tail = new StringBuilder();
                for (int i = 0; i < length; i++) {
                    tail.append(letters.charAt(turn >> 2 * i & 3));
                }
                tail(tail.toString());
            }
        }
        CHECK.none("1 u", "1 l", "1ux", "1lx", "1u1", "1l1", "1u.", "u1 1", "1ui", "1z", "1ulll", "1lllu", "1lluu");
    }

    private static void tail(String tail) {
        boolean isOne = tail.matches("[uU]?(l|L|ll|LL)?|(l|L|ll|LL)[uU]");
        boolean plain = tail.matches(".*[uU].*");
        String[] numbers = {"0", "7", "12", "012", "0x12"};
        int[] values = {0, 7, 12, 10, 18};
        for (int i = 0; i < numbers.length; i++) {
            if (isOne) {
                CHECK.sound(numbers[i] + tail, values[i], plain);
            } else {
                CHECK.none(numbers[i] + tail);
            }
        }
    }

    private static void bothLAlike() {
        CHECK.sentence("(both l alike)");
        CHECK.signed("1ll", 1);
        CHECK.signed("1LL", 1);
        CHECK.plain("1ull", 1);
        CHECK.plain("1LLu", 1);
        CHECK.plain("1Ull", 1);
        CHECK.none("1lL", "1Ll", "1ulL", "1uLl", "1lLu", "1LlU", "0x1lL", "01Ll", "1lul", "1LuL");
    }

    private static void charactersWithoutL() {
        CHECK.sentence("CHARACTERS, without L,");
        CHECK.signed("'a'", 97);
        CHECK.signed("'L'", 76);
        CHECK.none("L'a'", "L'\\n'", "L''", "u'a'", "l'a'", "L 'a'", "L\"a\"", "\"a\"", "\"\"");
    }

    private static void charactersOfOneByte() {
        CHECK.sentence("of one byte (0 .. 255)");
        for (int b = 0; b < 256; b++) {
            String text = "'" + (char) b + "'";
            if (b == 10 || b == 39 || b == 92) {
                CHECK.none(text);
            } else {
                CHECK.signed(text, b);
            }
        }
        CHECK.none("''", "'ab'", "'  '", "'\u00ff\u00ff'", "'abc'", "'abcd'", "'a", "a'", "'", "'\n'", "'a\n'");
    }

    private static void escapes() {
        CHECK.sentence("or one of \\n \\t \\r \\a \\b \\f \\v \\0 \\\\ \\' \\\" \\?");
        String letters = "ntrabfv0\\'\"?";
        int[] values = {10, 9, 13, 7, 8, 12, 11, 0, 92, 39, 34, 63};
        for (char b = 0; b < 256; b++) {
            int place = letters.indexOf(b);
            String text = "'\\" + b + "'";
            if (place >= 0) {
                CHECK.signed(text, values[place]);
            } else {
                CHECK.none(text);
            }
        }
        CHECK.none("'\\'", "'\\", "'\\nn'", "'n\\n'", "'\\00'", "'\\012'", "'\\x0'", "'\\n\\n'", "'\\\\n'", "'a\\'", "'n\\'");
    }

    private static void brackets() {
        CHECK.sentence("( )");
        CHECK.signed("(1)", 1);
        CHECK.signed("((1))", 1);
        CHECK.signed("( 1 )", 1);
        CHECK.signed("(1)+(2)", 3);
        CHECK.none("()", "( )", "(())", "(", ")", ")(", "(1", "1)", "((1)", "(1))", "(1)(2)", "1(2)", "(1)2", "2(1)",
                "(+)", "(1+)", "(*1)", "[1]", "{1}", "1+()", "()+1", "(1", "-(", "-()");
    }

    /** The stronger one of two operators comes first, as if it stood in brackets. */
    private static void risingStrength() {
        CHECK.sentence("by rising strength ? : (from the right), || && | ^ & (== !=) (< > <= >=) (<< >>) (+ -) (* / %)");
        for (int weak = 0; weak < LEVELS.length; weak++) {
            for (int strong = weak + 1; strong < LEVELS.length; strong++) {
                for (String weaker : LEVELS[weak]) {
                    for (String stronger : LEVELS[strong]) {
                        alike("X " + weaker + " Y " + stronger + " Z", "X " + weaker + " (Y " + stronger + " Z)");
                        alike("X " + stronger + " Y " + weaker + " Z", "(X " + stronger + " Y) " + weaker + " Z");
                    }
                }
            }
        }
    }

    private static void choiceIsWeakest() {
        CHECK.sentence("? :");
        for (String[] level : LEVELS) {
            for (String sign : level) {
                alike("X " + sign + " Y ? Z : 9", "(X " + sign + " Y) ? Z : 9");
                alike("X ? 8 : Y " + sign + " Z", "X ? 8 : (Y " + sign + " Z)");
                alike("X ? Y " + sign + " Z : 9", "X ? (Y " + sign + " Z) : 9");
            }
        }
        CHECK.none("1 ?", "1 ? 2", "1 ? 2 :", "1 ? : 2", "? 1 : 2", "1 : 2", "1 ? 2 : 3 : 4", "1 ?: 2", "(1 ? 2) : 3",
                "1 ? (2 : 3)", "1 ? 2 : (3", "(1 ? 2 : )", "1 ? 2 ? 3 : 4", "?", ":", "? :", "1 ? 2 : ? 3");
    }

    private static void choiceFromTheRight() {
        CHECK.sentence("? : (from the right)");
        alike("X ? 7 : Y ? 8 : Z", "X ? 7 : (Y ? 8 : Z)");
        alike("X ? Y ? 7 : 8 : Z", "X ? (Y ? 7 : 8) : Z");
        CHECK.signed("1 ? 0 : 1 ? 2 : 3", 0);
        CHECK.signed("0 ? 1 : 0 ? 2 : 0 ? 3 : 4", 4);
        CHECK.signed("1 ? 1 ? 1 ? 7 : 2 : 3 : 4", 7);
        CHECK.signed("(1 ? 0 : 1) ? 2 : 3", 3);
    }

    private static void fromTheLeft() {
        CHECK.sentence("all but ? : from the left");
        for (String[] level : LEVELS) {
            for (String first : level) {
                for (String second : level) {
                    alike("X " + first + " Y " + second + " Z", "(X " + first + " Y) " + second + " Z");
                }
            }
        }
        CHECK.signed("10-4-3", 3);
        CHECK.signed("100/10/5", 2);
        CHECK.signed("1<<2<<3", 32);
        CHECK.signed("2==2==2", 0);
        CHECK.signed("3>2>1", 0);
    }

    private static void inFront() {
        CHECK.sentence("and in front + - ~ !.");
        CHECK.signed("+5", 5);
        CHECK.signed("-5", -5);
        CHECK.signed("-0", 0);
        CHECK.signed("~5", -6);
        CHECK.signed("~0", -1);
        CHECK.signed("!5", 0);
        CHECK.signed("!0", 1);
        CHECK.plain("+5u", 5);
        CHECK.plain("-5u", -5);
        CHECK.plain("~5u", -6);
        CHECK.signed("!5u", 0);
        for (String front : FRONTS) {
            for (String[] level : LEVELS) {
                for (String sign : level) {
                    alike(front + "X " + sign + " Y + Z", "(" + front + "X) " + sign + " Y + Z");
                    alike("X " + sign + " " + front + "Y + Z", "X " + sign + " (" + front + "Y) + Z");
                }
            }
            for (String second : FRONTS) {
                CHECK.signed(front + " " + second + " 5", valueOf(front + " (" + second + " (5))"));
            }
            alike(front + "X ? Y : Z", "(" + front + "X) ? Y : Z");
            CHECK.none(front, "1 " + front, "(" + front + ")", front + ")", "1 * " + front);
        }
        CHECK.none("++1", "--1", "1 ~ 2", "1 ! 2", "1 ~", "*1", "&1", "/1", "1++", "1--");
        CHECK.signed("+ +1", 1);
        CHECK.signed("- -1", 1);
        CHECK.signed("1- -1", 2);
        CHECK.signed("!!5", 1);
        CHECK.signed("~~5", 5);
    }

    private static long valueOf(String text) {
        ConditionMill mill = Check.mill(text);
        CHECK.due("reckon() of " + text, mill.reckon(), 0);
        return mill.value();
    }

    private static String fill(String form, int x, int y, int z) {
        return form.replace("X", "" + x).replace("Y", "" + y).replace("Z", "" + z);
    }

    /** Both forms, filled with the same numbers, come to the same: the fault, the value and the kind. */
    private static void alike(String form, String bracketed) {
        int[] numbers = {0, 1, 2, 5};
        for (int a : numbers) {
            for (int b : numbers) {
                for (int c : numbers) {
                    String text = fill(form, a, b, c);
                    ConditionMill mill = Check.mill(text);
                    ConditionMill other = Check.mill(fill(bracketed, a, b, c));
                    CHECK.due("reckon() of " + text, mill.reckon(), other.reckon());
                    CHECK.due("value() of " + text, mill.value(), other.value());
                    CHECK.due("isPlain() of " + text, mill.isPlain(), other.isPlain());
                }
            }
        }
    }
}
