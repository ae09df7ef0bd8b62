import java.math.BigInteger;
import java.util.ArrayList;
import java.util.List;
import java.util.Random;
import java.util.regex.Matcher;
import java.util.regex.Pattern;

/**
 * Holds the program against a second one that is built another way: tokens by a pattern, a tree of
 * the condition, and numbers without bounds that are brought back to 64 bits.
 */
public final class ReferenceTest {
    private static final Check CHECK = new Check();
    private static final BigInteger SPAN = BigInteger.ONE.shiftLeft(64);
    private static final BigInteger HALF = BigInteger.ONE.shiftLeft(63);
    private static final Pattern TOKEN = Pattern.compile(
            "(?<text>L?\"(?:\\\\[^\n]|[^\\\\\"\n])*\")|(?<character>L?'(?:\\\\[^\n]|[^\\\\'\n])*')"
            + "|(?<name>[A-Za-z_][A-Za-z_0-9]*)|(?<number>\\.?[0-9](?:[eEpP][+-]|[0-9A-Za-z_.])*)"
            + "|(?<sign>\\.\\.\\.|<<=|>>=|->|\\+\\+|--|<<|>>|<=|>=|==|!=|&&|\\|\\||[*/%+\\-&^|]=|##"
            + "|[#\\[\\](){}.&*+\\-~!/%<>^|?:;=,])|(?<other>[^ \t\n\u000b\f\r])");
    private static final String[] KINDS = {"name", "number", "text", "character", "sign", "other"};
    private static final String[][] LEVELS = {{"||"}, {"&&"}, {"|"}, {"^"}, {"&"}, {"==", "!="}, {"<", ">", "<=", ">="},
        {"<<", ">>"}, {"+", "-"}, {"*", "/", "%"}};
    private static final Pattern DIGITS = Pattern.compile(
            "(0[xX][0-9a-fA-F]+|0[0-7]*|[1-9][0-9]*)(?:([uU])?(?:l|L|ll|LL)?|(?:l|L|ll|LL)([uU]))");
    private static final String ESCAPES = "ntrabfv0\\'\"?";
    private static final int[] ESCAPED = {10, 9, 13, 7, 8, 12, 11, 0, 92, 39, 34, 63};

    private record Token(int start, String bytes, int kind) { }

    /** A part of the condition: an operator with up to three parts, or a leaf. */
    private record Node(String sign, Node first, Node second, Node third, BigInteger leaf, boolean plain, int depth) { }

    private static final class NoCondition extends Exception {
        private static final long serialVersionUID = 1;
    }

    private static final class Divided extends Exception {
        private static final long serialVersionUID = 1;
    }

    private static final class Reader {
        private final List<Token> row;
        private int next = 0;

        Reader(List<Token> row) {
            this.row = row;
        }

        boolean sees(String sign) {
            return next < row.size() && row.get(next).kind == 5 && row.get(next).bytes.equals(sign);
        }

        boolean takes(String sign) {
            boolean seen = sees(sign);
            next += seen ? 1 : 0;
            return seen;
        }

        Node whole() throws NoCondition {
            Node node = choice();
            if (next != row.size() || node.depth > 60) {
                throw new NoCondition();
            }
            return node;
        }

        Node choice() throws NoCondition {
            Node first = level(0);
            if (!takes("?")) {
                return first;
            }
            Node second = choice();
            if (!takes(":")) {
                throw new NoCondition();
            }
            Node third = choice();
            int depth = Math.max(first.depth, 1 + Math.max(second.depth, third.depth));
            return new Node("?", first, second, third, null, second.plain || third.plain, depth);
        }

        Node level(int level) throws NoCondition {
            if (level == LEVELS.length) {
                return front();
            }
            Node left = level(level + 1);
            while (true) {
                String found = null;
                for (String sign : LEVELS[level]) {
                    if (found == null && takes(sign)) {
                        found = sign;
                    }
                }
                if (found == null) {
                    return left;
                }
                Node right = level(level + 1);
                boolean plain = level == 7 ? left.plain
                        : (level == 2 || level == 3 || level == 4 || level > 7) && (left.plain || right.plain);
                left = new Node(found, left, right, null, null, plain, Math.max(left.depth, right.depth));
            }
        }

        Node front() throws NoCondition {
            for (String sign : new String[] {"+", "-", "~", "!"}) {
                if (takes(sign)) {
                    Node inner = front();
                    return new Node("f" + sign, inner, null, null, null, inner.plain && !sign.equals("!"), 1 + inner.depth);
                }
            }
            if (takes("(")) {
                Node inner = choice();
                if (!takes(")")) {
                    throw new NoCondition();
                }
                return new Node("f+", inner, null, null, null, inner.plain, 1 + inner.depth);
            }
            if (next >= row.size()) {
                throw new NoCondition();
            }
            return leaf(row.get(next++));
        }
    }

    private static Node leaf(Token token) throws NoCondition {
        String bytes = token.bytes;
        if (token.kind == 1) {
            return new Node("leaf", null, null, null, BigInteger.ZERO, false, 0);
        }
        if (token.kind == 4 && bytes.length() == 3 && bytes.charAt(0) == '\'') {
            return new Node("leaf", null, null, null, BigInteger.valueOf(bytes.charAt(1)), false, 0);
        }
        if (token.kind == 4 && bytes.length() == 4 && bytes.startsWith("'\\") && ESCAPES.indexOf(bytes.charAt(2)) >= 0) {
            int value = ESCAPED[ESCAPES.indexOf(bytes.charAt(2))];
            return new Node("leaf", null, null, null, BigInteger.valueOf(value), false, 0);
        }
        Matcher digits = DIGITS.matcher(bytes);
        if (token.kind != 2 || !digits.matches()) {
            throw new NoCondition();
        }
        String figures = digits.group(1);
        boolean u = digits.group(2) != null || digits.group(3) != null;
        boolean hex = figures.startsWith("0x") || figures.startsWith("0X");
        boolean decimal = figures.charAt(0) != '0';
        BigInteger value = hex ? new BigInteger(figures.substring(2), 16) : new BigInteger(figures, decimal ? 10 : 8);
        if (value.bitLength() > 64 || decimal && !u && value.bitLength() > 63) {
            throw new NoCondition();
        }
        boolean plain = u || value.bitLength() > 63;
        return new Node("leaf", null, null, null, value, plain, 0);
    }

    /** The number as the kind shows it: 0 .. 2^64 - 1, or -2^63 .. 2^63 - 1. */
    private static BigInteger as(BigInteger value, boolean plain) {
        BigInteger low = value.mod(SPAN);
        return plain || low.compareTo(HALF) < 0 ? low : low.subtract(SPAN);
    }

    private static boolean isTrue(Node node) throws Divided {
        return reckon(node).signum() != 0;
    }

    private static BigInteger truth(boolean is) {
        return is ? BigInteger.ONE : BigInteger.ZERO;
    }

    private static BigInteger reckon(Node node) throws Divided {
        switch (node.sign) {
            case "leaf": return node.leaf;
            case "?": return as(reckon(isTrue(node.first) ? node.second : node.third), node.plain);
            case "&&": return truth(isTrue(node.first) && isTrue(node.second));
            case "||": return truth(isTrue(node.first) || isTrue(node.second));
            case "f+": return reckon(node.first);
            case "f-": return as(reckon(node.first).negate(), node.plain);
            case "f~": return as(reckon(node.first).not(), node.plain);
            case "f!": return truth(!isTrue(node.first));
            case "<<": return as(reckon(node.first).shiftLeft(reckon(node.second).mod(BigInteger.valueOf(64)).intValue()),
                    node.plain);
            case ">>": return reckon(node.first).shiftRight(reckon(node.second).mod(BigInteger.valueOf(64)).intValue());
            default: return pair(node);
        }
    }

    private static BigInteger pair(Node node) throws Divided {
        boolean plain = node.first.plain || node.second.plain;
        BigInteger a = as(reckon(node.first), plain);
        BigInteger b = as(reckon(node.second), plain);
        if ((node.sign.equals("/") || node.sign.equals("%")) && b.signum() == 0) {
            throw new Divided();
        }
        switch (node.sign) {
            case "|": return as(a.or(b), plain);
            case "^": return as(a.xor(b), plain);
            case "&": return as(a.and(b), plain);
            case "==": return truth(a.equals(b));
            case "!=": return truth(!a.equals(b));
            case "<": return truth(a.compareTo(b) < 0);
            case ">": return truth(a.compareTo(b) > 0);
            case "<=": return truth(a.compareTo(b) <= 0);
            case ">=": return truth(a.compareTo(b) >= 0);
            case "+": return as(a.add(b), plain);
            case "-": return as(a.subtract(b), plain);
            case "*": return as(a.multiply(b), plain);
            case "/": return as(a.divide(b), plain);
            default: return as(a.remainder(b), plain);
        }
    }

    private static List<Token> split(String text) {
        List<Token> row = new ArrayList<>();
        Matcher matcher = TOKEN.matcher(text);
        while (matcher.find()) {
            for (int kind = 1; kind <= 6; kind++) {
                if (matcher.group(KINDS[kind - 1]) != null) {
                    row.add(new Token(matcher.start(), matcher.group(), kind));
                }
            }
        }
        return row;
    }

    private static final int[] FAULTS = new int[13];
    private static ConditionMill mill = new ConditionMill();
    private static int calls = 0;

    /** Brings the text into the object, or into a new one where this one has too few calls left. */
    private static void put(String text) {
        int needed = 1 + (text.length() + 7) / 8;
        if (calls + needed > Check.MOST_CALLS) {
            mill = new ConditionMill();
            calls = 0;
        }
        calls += needed;
        mill.cut(0);
        Check.feed(mill, text);
    }

    /** Before so many calls more about the text. */
    private static void keepRoom(String text, int more) {
        if (calls + more > Check.MOST_CALLS) {
            calls = Check.MOST_CALLS;
            put(text);
        }
        calls += more;
    }

    private static void compare(String text) {
        put(text);
        List<Token> row = split(text);
        keepRoom(text, 1);
        CHECK.due("tokens() of " + text, mill.tokens(), row.size());
        for (int i = 0; i < row.size(); i++) {
            Token token = row.get(i);
            keepRoom(text, 3);
            CHECK.due("place of token " + i + " of " + text, mill.token(i, 0), token.start);
            CHECK.due("length of token " + i + " of " + text, mill.token(i, 1), token.bytes.length());
            CHECK.due("kind of token " + i + " of " + text, mill.token(i, 2), token.kind);
        }
        int fault = 0;
        long value = 0;
        boolean plain = false;
        try {
            Node tree = new Reader(row).whole();
            value = reckon(tree).longValue();
            plain = tree.plain;
        } catch (NoCondition none) {
            fault = 11;
        } catch (Divided divided) {
            fault = 12;
        }
        FAULTS[fault]++;
        keepRoom(text, 3);
        CHECK.due("reckon() of " + text, mill.reckon(), fault);
        CHECK.due("value() of " + text, mill.value(), value);
        CHECK.due("isPlain() of " + text, mill.isPlain(), plain);
    }

    private static final String[] LEAVES = {"0", "1", "2", "3", "7", "0u", "1u", "5ull", "a", "'a'", "'\\n'", "'\u00ff'",
        "0x8000000000000000", "0xffffffffffffffff", "9223372036854775807", "18446744073709551615u", "0777", "63", "64",
        "0x7fffffffffffffffLU", "4294967296", "10lu", "(1/0)", "0", "1"};
    private static final String[] SCRAPS = {"'", "\"", "\\", "\n", "L", "L'", "e", "E+", "p-", ".", "..", "1", "0", "x", "u",
        "l", "L", "ll", "+", "-", "<", ">", "=", "&", "|", "!", "~", "?", ":", "(", ")", "*", "/", "%", "^", "#", " ", "@",
        "\u00e9", "_", "8", "9", "f", "\t", "\r", ",", ";", "[", "{", "0x", "'a'", "\0", "n"};

    private static String grow(Random random, int depth) {
        int turn = random.nextInt(12);
        if (depth == 0 || turn < 2) {
            return LEAVES[random.nextInt(LEAVES.length)];
        }
        String blank = random.nextInt(3) == 0 ? " " : "";
        if (turn < 4) {
            return "+-~!".charAt(random.nextInt(4)) + " " + grow(random, depth - 1);
        }
        if (turn < 6) {
            return "(" + blank + grow(random, depth - 1) + blank + ")";
        }
        if (turn == 6) {
            return grow(random, depth - 1) + "?" + blank + grow(random, depth - 1) + ":" + grow(random, depth - 1);
        }
        String[] level = LEVELS[random.nextInt(LEVELS.length)];
        return grow(random, depth - 1) + blank + level[random.nextInt(level.length)] + " " + grow(random, depth - 1);
    }

    private static String nest(Random random) {
        StringBuilder open = new StringBuilder();
        StringBuilder close = new StringBuilder();
        for (int left = 57 + random.nextInt(6); left > 0; left--) {
            switch (random.nextInt(6)) {
                case 0: open.append("(3*2+"); close.insert(0, "||0)"); break;
                case 1: open.append("~ "); break;
                case 2: open.append("!"); break;
                case 3: open.append("0?(5):"); break;
                case 4: open.append("1?"); close.insert(0, ":-1"); break;
                default: open.append("("); close.insert(0, ")"); break;
            }
        }
        return open + "1" + close;
    }

    private static String spoil(Random random, String text) {
        int place = random.nextInt(text.length() + 1);
        String scrap = SCRAPS[random.nextInt(SCRAPS.length)];
        int behind = Math.min(text.length(), place + random.nextInt(2));
        return text.substring(0, place) + scrap + text.substring(behind);
    }

    private static String scraps(Random random) {
        StringBuilder text = new StringBuilder();
        for (int left = random.nextInt(30); left > 0; left--) {
            text.append(SCRAPS[random.nextInt(SCRAPS.length)]);
        }
        return text.toString();
    }

    public static void main(String[] args) {
        Random random = new Random(20);
        for (int i = 0; i < 20000; i++) {
            String grown = grow(random, 1 + random.nextInt(5));
            compare(grown);
            if (i % 3 == 0) {
                compare(spoil(random, grown));
                compare(scraps(random));
            }
            if (i % 10 == 0) {
                compare(nest(random));
            }
        }
        for (int fault : new int[] {0, 11, 12}) {
            CHECK.due("enough texts of fault " + fault, FAULTS[fault] > 2000, true);
        }
        CHECK.end();
    }
}
