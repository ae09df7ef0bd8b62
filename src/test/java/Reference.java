import java.math.BigInteger;
import java.util.ArrayList;
import java.util.List;
import java.util.regex.Matcher;
import java.util.regex.Pattern;

/**
 * Holds the program against a second one that is built another way: tokens by a pattern, a tree of
 * the condition, and numbers without bounds that are brought back to 64 bits.
 */
final class Reference {
    private static final BigInteger SPAN = BigInteger.ONE.shiftLeft(64);
    private static final BigInteger HALF = BigInteger.ONE.shiftLeft(63);
    private static final Pattern TOKEN = Pattern.compile(
            "(?<text>L?\"(?:\\\\[^\n]|[^\\\\\"\n])*\")|(?<character>L?'(?:\\\\[^\n]|[^\\\\'\n])*')"
            + "|(?<name>[A-Za-z_][A-Za-z_0-9]*)|(?<number>\\.?[0-9](?:[eEpP][+-]|[0-9A-Za-z_.])*)"
            + "|(?<sign>\\.\\.\\.|<<=|>>=|->|\\+\\+|--|<<|>>|<=|>=|==|!=|&&|\\|\\||[*/%+\\-&^|]=|##"
            + "|[#\\[\\](){}.&*+\\-~!/%<>^|?:;=,])|(?<other>[^ \t\n\u000b\f\r])");
    private static final String[] KINDS = {"name", "number", "text", "character", "sign", "other"};
    static final String[][] LEVELS = {{"||"}, {"&&"}, {"|"}, {"^"}, {"&"}, {"==", "!="}, {"<", ">", "<=", ">="},
        {"<<", ">>"}, {"+", "-"}, {"*", "/", "%"}};
    private static final Pattern DIGITS = Pattern.compile(
            "(0[xX][0-9a-fA-F]+|0[0-7]*|[1-9][0-9]*)(?:([uU])?(?:l|L|ll|LL)?|(?:l|L|ll|LL)([uU]))");
    private static final String ESCAPES = "ntrabfv0\\'\"?";
    private static final int[] ESCAPED = {10, 9, 13, 7, 8, 12, 11, 0, 92, 39, 34, 63};

    private record Token(int start, String bytes, int kind) { }

    /** A part of the condition: an operator with up to three parts, or a leaf. */
    private record Node(String sign, Node first, Node second, Node third, BigInteger leaf, boolean plain, int depth) { }

    private static final class NoCondition extends Exception {
        private static final long serialVersionUID = 1;

        NoCondition() {
            // Most short texts are none: a trace for each would take longer than all the rest.
            super(null, null, false, false);
        }
    }

    private static final class Divided extends Exception {
        private static final long serialVersionUID = 1;
    }

    private static final class Reader {
        private final List<Token> row;
        private int next = 0;

        Reader(List<Token> row) {
            this.row = row;
        }

        boolean sees(String sign) {
            return next < row.size() && row.get(next).kind == 5 && row.get(next).bytes.equals(sign);
        }

        boolean takes(String sign) {
            boolean seen = sees(sign);
            next += seen ? 1 : 0;
            return seen;
        }

        Node whole() throws NoCondition {
            Node node = choice();
            if (next != row.size() || node.depth > 60) {
                throw new NoCondition();
            }
            return node;
        }

        Node choice() throws NoCondition {
            Node first = level(0);
            if (!takes("?")) {
                return first;
            }
            Node second = choice();
            if (!takes(":")) {
                throw new NoCondition();
            }
            Node third = choice();
            int depth = Math.max(first.depth, 1 + Math.max(second.depth, third.depth));
            return new Node("?", first, second, third, null, second.plain || third.plain, depth);
        }

        Node level(int level) throws NoCondition {
            if (level == LEVELS.length) {
                return front();
            }
            Node left = level(level + 1);
            while (true) {
                String found = null;
                for (String sign : LEVELS[level]) {
                    if (found == null && takes(sign)) {
                        found = sign;
                    }
                }
                if (found == null) {
                    return left;
                }
                Node right = level(level + 1);
                boolean plain = level == 7 ? left.plain
                        : (level == 2 || level == 3 || level == 4 || level > 7) && (left.plain || right.plain);
                left = new Node(found, left, right, null, null, plain, Math.max(left.depth, right.depth));
            }
        }

        Node front() throws NoCondition {
            for (String sign : new String[] {"+", "-", "~", "!"}) {
                if (takes(sign)) {
                    Node inner = front();
                    return new Node("f" + sign, inner, null, null, null, inner.plain && !sign.equals("!"), 1 + inner.depth);
                }
            }
            if (takes("(")) {
                Node inner = choice();
                if (!takes(")")) {
                    throw new NoCondition();
                }
                return new Node("f+", inner, null, null, null, inner.plain, 1 + inner.depth);
            }
            if (next >= row.size()) {
                throw new NoCondition();
            }
            return leaf(row.get(next++));
        }
    }

    private static Node leaf(Token token) throws NoCondition {
        String bytes = token.bytes;
        if (token.kind == 1) {
            return new Node("leaf", null, null, null, BigInteger.ZERO, false, 0);
        }
        if (token.kind == 4 && bytes.length() == 3 && bytes.charAt(0) == '\'') {
            return new Node("leaf", null, null, null, BigInteger.valueOf(bytes.charAt(1)), false, 0);
        }
        if (token.kind == 4 && bytes.length() == 4 && bytes.startsWith("'\\") && ESCAPES.indexOf(bytes.charAt(2)) >= 0) {
            int value = ESCAPED[ESCAPES.indexOf(bytes.charAt(2))];
            return new Node("leaf", null, null, null, BigInteger.valueOf(value), false, 0);
        }
        Matcher digits = DIGITS.matcher(bytes);
        if (token.kind != 2 || !digits.matches()) {
            throw new NoCondition();
        }
        String figures = digits.group(1);
        boolean u = digits.group(2) != null || digits.group(3) != null;
        boolean hex = figures.startsWith("0x") || figures.startsWith("0X");
        boolean decimal = figures.charAt(0) != '0';
        BigInteger value = hex ? new BigInteger(figures.substring(2), 16) : new BigInteger(figures, decimal ? 10 : 8);
        if (value.bitLength() > 64 || decimal && !u && value.bitLength() > 63) {
            throw new NoCondition();
        }
        boolean plain = u || value.bitLength() > 63;
        return new Node("leaf", null, null, null, value, plain, 0);
    }

    /** The number as the kind shows it: 0 .. 2^64 - 1, or -2^63 .. 2^63 - 1. */
    private static BigInteger as(BigInteger value, boolean plain) {
        BigInteger low = value.mod(SPAN);
        return plain || low.compareTo(HALF) < 0 ? low : low.subtract(SPAN);
    }

    private static boolean isTrue(Node node) throws Divided {
        return reckon(node).signum() != 0;
    }

    private static BigInteger truth(boolean is) {
        return is ? BigInteger.ONE : BigInteger.ZERO;
    }

    private static BigInteger reckon(Node node) throws Divided {
        switch (node.sign) {
            case "leaf": return node.leaf;
            case "?": return as(reckon(isTrue(node.first) ? node.second : node.third), node.plain);
            case "&&": return truth(isTrue(node.first) && isTrue(node.second));
            case "||": return truth(isTrue(node.first) || isTrue(node.second));
            case "f+": return reckon(node.first);
            case "f-": return as(reckon(node.first).negate(), node.plain);
            case "f~": return as(reckon(node.first).not(), node.plain);
            case "f!": return truth(!isTrue(node.first));
            case "<<": return as(reckon(node.first).shiftLeft(reckon(node.second).mod(BigInteger.valueOf(64)).intValue()),
                    node.plain);
            case ">>": return reckon(node.first).shiftRight(reckon(node.second).mod(BigInteger.valueOf(64)).intValue());
            default: return pair(node);
        }
    }

    private static BigInteger pair(Node node) throws Divided {
        boolean plain = node.first.plain || node.second.plain;
        BigInteger a = as(reckon(node.first), plain);
        BigInteger b = as(reckon(node.second), plain);
        if ((node.sign.equals("/") || node.sign.equals("%")) && b.signum() == 0) {
            throw new Divided();
        }
        switch (node.sign) {
            case "|": return as(a.or(b), plain);
            case "^": return as(a.xor(b), plain);
            case "&": return as(a.and(b), plain);
            case "==": return truth(a.equals(b));
            case "!=": return truth(!a.equals(b));
            case "<": return truth(a.compareTo(b) < 0);
            case ">": return truth(a.compareTo(b) > 0);
            case "<=": return truth(a.compareTo(b) <= 0);
            case ">=": return truth(a.compareTo(b) >= 0);
            case "+": return as(a.add(b), plain);
            case "-": return as(a.subtract(b), plain);
            case "*": return as(a.multiply(b), plain);
            case "/": return as(a.divide(b), plain);
            default: return as(a.remainder(b), plain);
        }
    }

    private static List<Token> split(String text) {
        List<Token> row = new ArrayList<>();
        Matcher matcher = TOKEN.matcher(text);
        while (matcher.find()) {
            for (int kind = 1; kind <= 6; kind++) {
                if (matcher.group(KINDS[kind - 1]) != null) {
                    row.add(new Token(matcher.start(), matcher.group(), kind));
                }
            }
        }
        return row;
    }

    private final Check check;
    private final int[] faults = new int[13];
    private ConditionMill mill = new ConditionMill();
    private int calls = 0;

    Reference(Check check) {
        this.check = check;
    }

    /** How many of the texts so far have this fault. */
    int seen(int fault) {
        return faults[fault];
    }

    /** Brings the text into the object, or into a new one where this one has too few calls left. */
    private void put(String text) {
        int needed = 1 + (text.length() + 7) / 8;
        if (calls + needed > Check.MOST_CALLS) {
            mill = new ConditionMill();
            calls = 0;
        }
        calls += needed;
        mill.cut(0);
        Check.feed(mill, text);
    }

    /** Before so many calls more about the text. */
    private void keepRoom(String text, int more) {
        if (calls + more > Check.MOST_CALLS) {
            calls = Check.MOST_CALLS;
            put(text);
        }
        calls += more;
    }

    /** Asks both programs for all that there is to the text. */
    void compare(String text) {
        put(text);
        List<Token> row = split(text);
        keepRoom(text, 1);
        check.due("tokens() of " + text, mill.tokens(), row.size());
        for (int i = 0; i < row.size(); i++) {
            Token token = row.get(i);
            keepRoom(text, 3);
            check.due("place of token " + i + " of " + text, mill.token(i, 0), token.start);
            check.due("length of token " + i + " of " + text, mill.token(i, 1), token.bytes.length());
            check.due("kind of token " + i + " of " + text, mill.token(i, 2), token.kind);
        }
        int fault = 0;
        long value = 0;
        boolean plain = false;
        try {
            Node tree = new Reader(row).whole();
            value = reckon(tree).longValue();
            plain = tree.plain;
        } catch (NoCondition none) {
            fault = 11;
        } catch (Divided divided) {
            fault = 12;
        }
        faults[fault]++;
        keepRoom(text, 3);
        check.due("reckon() of " + text, mill.reckon(), fault);
        check.due("value() of " + text, mill.value(), value);
        check.due("isPlain() of " + text, mill.isPlain(), plain);
    }
}
