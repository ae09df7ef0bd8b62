/** Reckons the conditions behind if and elif of a C preprocessor; the promises stand in DOC.md. */
public final class ConditionMill {
    public static final int BAD = -1, FULL = -2;

    private static final int SOUND = 0, NO_CONDITION = 11, DIVISION = 12;
    private static final int MOST_BYTES = 4096;
    private static final int NO_BYTE = -1, NEWLINE = 10, BACKSLASH = 92;
    private static final int NAME = 1, NUMBER = 2, TEXT = 3, CHARACTER = 4, SIGN = 5, OTHER = 6;

    // The code of a sign has its first byte lowest.
    private static final int OR = '|' | '|' << 8, AND = '&' | '&' << 8;
    private static final int EQUAL = '=' | '=' << 8, UNEQUAL = '!' | '=' << 8;
    private static final int AT_MOST = '<' | '=' << 8, AT_LEAST = '>' | '=' << 8;
    private static final int LEFTWARD = '<' | '<' << 8, RIGHTWARD = '>' | '>' << 8;

    private final Text text;
    private final Walk walk;
    private final Reckoner reckoner;
    private long latestAmount;
    private boolean latestPlain;

    public ConditionMill() {
        text = new Text();
        walk = new Walk(text);
        reckoner = new Reckoner(walk, new Literal(text));
    }

    public int feed(long bytes, int n) {
        if (n < 1 || n > 8) {
            return BAD;
        }
        if (n > MOST_BYTES - text.size) {
            return FULL;
        }
        text.append(bytes, n);
        return text.size;
    }

    public int cut(int n) {
        if (n < 0 || n > text.size) {
            return BAD;
        }
        int gone = text.size - n;
        text.size = n;
        return gone;
    }

    public int reckon() {
        int fault = reckoner.run();
        boolean sound = fault == SOUND;
        latestAmount = sound ? reckoner.amounts[0] : 0;
        latestPlain = sound && reckoner.plains[0];
        return fault;
    }

    public long value() {
        return latestAmount;
    }

    public boolean isPlain() {
        return latestPlain;
    }

    public int tokens() {
        walk.restart();
        int seen = 0;
        while (seen < MOST_BYTES && walk.step()) {
            seen++;
        }
        return seen;
    }

    public int token(int i, int what) {
        if (what < 0 || what > 2 || i < 0 || i >= MOST_BYTES) {
            return BAD;
        }
        walk.restart();
        for (int seen = 0; seen <= i; seen++) {
            if (!walk.step()) {
                return BAD;
            }
        }
        if (what == 0) {
            return walk.start;
        }
        return what == 1 ? walk.end - walk.start : walk.kind;
    }

    /** The row of bytes. */
    private static final class Text {
        private final byte[] row = new byte[MOST_BYTES];
        private int size;

        void append(long bytes, int n) {
            for (int i = 0; i < n && size < MOST_BYTES; i++) {
                row[size] = (byte) (bytes >>> 8 * i);
                size++;
            }
        }

        /** 0 .. 255, or NO_BYTE outside the text, so that looking ahead needs no test of its own. */
        int at(int place) {
            return place < 0 || place >= size || place >= MOST_BYTES ? NO_BYTE : row[place] & 255;
        }
    }

    /** Goes through the text from token to token. */
    private static final class Walk {
        private static final String SINGLES = "#[](){}.&*+-~!/%<>^|?:;=,";

        private final Text text;
        private int start, end, kind;
        private int openTextEnd, openCharacterEnd;

        Walk(Text text) {
            this.text = text;
        }

        void restart() {
            start = 0;
            end = 0;
            kind = OTHER;
            openTextEnd = 0;
            openCharacterEnd = 0;
        }

        /** Goes on to the next token; false if there is none. */
        boolean step() {
            int place = end;
            while (place < text.size && isBlank(text.at(place))) {
                place++;
            }
            start = place;
            end = place;
            if (place >= text.size) {
                return false;
            }
            if (!takeQuoted() && !takeName() && !takeNumber() && !takeSign()) {
                take(OTHER, start + 1);
            }
            return true;
        }

        int signCode() {
            int code = 0;
            for (int i = 0; i < 3 && start + i < end; i++) {
                code |= text.at(start + i) << 8 * i;
            }
            return code;
        }

        private void take(int newKind, int newEnd) {
            kind = newKind;
            end = newEnd;
        }

        private boolean takeQuoted() {
            int quote = text.at(start) == 'L' ? start + 1 : start;
            int mark = text.at(quote);
            if (mark != '"' && mark != '\'') {
                return false;
            }
            int close = closeOf(quote, mark);
            if (close == NO_BYTE) {
                return false;
            }
            take(mark == '"' ? TEXT : CHARACTER, close + 1);
            return true;
        }

        /** The place of the mark that closes the quote, or NO_BYTE. */
        private int closeOf(int quote, int mark) {
            // An open quote's line holds further such marks only behind a 92, so these stay open as
            // well; to search for each of them anew would take the square of the text's length.
            if (quote < (mark == '"' ? openTextEnd : openCharacterEnd)) {
                return NO_BYTE;
            }
            int place = quote + 1;
            while (place < text.size) {
                int here = text.at(place);
                if (here == mark) {
                    return place;
                }
                if (here == NEWLINE) {
                    break;
                }
                place += here == BACKSLASH && text.at(place + 1) != NEWLINE ? 2 : 1;
            }
            if (mark == '"') {
                openTextEnd = place;
            } else {
                openCharacterEnd = place;
            }
            return NO_BYTE;
        }

        private boolean takeName() {
            if (!isLetter(text.at(start))) {
                return false;
            }
            int place = start + 1;
            while (place < text.size && (isLetter(text.at(place)) || isDigit(text.at(place)))) {
                place++;
            }
            take(NAME, place);
            return true;
        }

        private boolean takeNumber() {
            int first = text.at(start);
            if (!isDigit(first) && !(first == '.' && isDigit(text.at(start + 1)))) {
                return false;
            }
            int place = start + 1;
            while (place < text.size && goesOnNumber(text.at(place - 1), text.at(place))) {
                place++;
            }
            take(NUMBER, place);
            return true;
        }

        private boolean takeSign() {
            int first = text.at(start);
            int second = text.at(start + 1);
            int third = text.at(start + 2);
            if (isTriple(first, second, third)) {
                take(SIGN, start + 3);
            } else if (isPair(first, second)) {
                take(SIGN, start + 2);
            } else if (SINGLES.indexOf((char) first) >= 0) {
                take(SIGN, start + 1);
            } else {
                return false;
            }
            return true;
        }

        private static boolean isTriple(int first, int second, int third) {
            if (first != second) {
                return false;
            }
            return first == '.' ? third == '.' : (first == '<' || first == '>') && third == '=';
        }

        private static boolean isPair(int first, int second) {
            switch (first) {
                case '-':
                    return second == '>' || second == '-' || second == '=';
                case '+': case '&': case '|': case '<': case '>':
                    return second == first || second == '=';
                case '=': case '!': case '*': case '/': case '%': case '^':
                    return second == '=';
                case '#':
                    return second == '#';
                default:
                    return false;
            }
        }

        private static boolean goesOnNumber(int before, int here) {
            if (here == '+' || here == '-') {
                return before == 'e' || before == 'E' || before == 'p' || before == 'P';
            }
            return isDigit(here) || isLetter(here) || here == '.';
        }

        private static boolean isBlank(int here) {
            return here == 32 || here >= 9 && here <= 13;
        }

        private static boolean isDigit(int here) {
            return here >= '0' && here <= '9';
        }

        private static boolean isLetter(int here) {
            return here >= 'a' && here <= 'z' || here >= 'A' && here <= 'Z' || here == '_';
        }
    }

    /** Tells what a name, a number or a character stands for. */
    private static final class Literal {
        private static final int NO_DIGIT = 99;
        // A tenth of the greatest number of 64 bits, whose last digit is 5.
        private static final long TENTH_OF_MOST = 1844674407370955161L;

        private final Text text;
        private long amount;
        private boolean plain;

        Literal(Text text) {
            this.text = text;
        }

        /** False if the token may not stand in a condition as an operand. */
        boolean read(int kind, int start, int end) {
            amount = 0;
            plain = false;
            switch (kind) {
                case NAME:
                    return true;
                case NUMBER:
                    return readNumber(start, end);
                case CHARACTER:
                    return readCharacter(start, end);
                default:
                    return false;
            }
        }

        private boolean readNumber(int start, int end) {
            int base = baseAt(start);
            int first = base == 16 ? start + 2 : start;
            int place = first;
            while (place < end && digitOf(text.at(place)) < base) {
                int digit = digitOf(text.at(place));
                if (!fits(base, digit)) {
                    return false;
                }
                amount = amount * base + digit;
                place++;
            }
            if (place == first || !readTail(place, end)) {
                return false;
            }
            if (amount < 0 && !plain) {
                plain = true;
                return base != 10;
            }
            return true;
        }

        private int baseAt(int start) {
            if (text.at(start) != '0') {
                return 10;
            }
            int second = text.at(start + 1);
            return second == 'x' || second == 'X' ? 16 : 8;
        }

        /** Whether the amount keeps to 64 bits when this digit comes behind it. */
        private boolean fits(int base, int digit) {
            if (base == 10) {
                return amount >= 0 && (amount < TENTH_OF_MOST || amount == TENTH_OF_MOST && digit <= 5);
            }
            return amount >>> (base == 16 ? 60 : 61) == 0;
        }

        /** Reads u and l or ll behind the digits; false if there is anything else. */
        private boolean readTail(int from, int end) {
            boolean isLong = false;
            int place = from;
            while (place < end) {
                int here = text.at(place);
                if ((here == 'u' || here == 'U') && !plain) {
                    plain = true;
                    place++;
                } else if ((here == 'l' || here == 'L') && !isLong) {
                    isLong = true;
                    place += place + 1 < end && text.at(place + 1) == here ? 2 : 1;
                } else {
                    return false;
                }
            }
            return true;
        }

        private boolean readCharacter(int start, int end) {
            if (text.at(start) != '\'') {
                return false;
            }
            if (end - start == 3) {
                amount = text.at(start + 1);
                return true;
            }
            if (end - start != 4 || text.at(start + 1) != BACKSLASH) {
                return false;
            }
            amount = escaped(text.at(start + 2));
            return amount != NO_BYTE;
        }

        private static int escaped(int letter) {
            switch (letter) {
                case 'n': return 10;
                case 't': return 9;
                case 'r': return 13;
                case 'a': return 7;
                case 'b': return 8;
                case 'f': return 12;
                case 'v': return 11;
                case '0': return 0;
                case '\\': case '\'': case '"': case '?': return letter;
                default: return NO_BYTE;
            }
        }

        private static int digitOf(int here) {
            if (here >= '0' && here <= '9') {
                return here - '0';
            }
            if (here >= 'a' && here <= 'f') {
                return here - 'a' + 10;
            }
            return here >= 'A' && here <= 'F' ? here - 'A' + 10 : NO_DIGIT;
        }
    }

    /**
     * Reads a condition once from left to right. Operators wait on a stack until their last operand
     * is whole; a stack of its own keeps the nesting off the machine's calls.
     */
    private static final class Reckoner {
        private static final int MOST_NESTED = 60;
        // A sign behind an operand finishes what waits with its own strength or a greater one; OPEN
        // is below all of them, since a bracket and a ? wait for their own other half.
        private static final int OPEN = -1, CHOICE = 0, WEAKEST = 1, STRONGEST = 10, FRONT = 11;
        private static final int NO_STRENGTH = 99;
        // Within each nest at most one operator of each strength waits.
        private static final int MOST_WAITING = MOST_NESTED + (MOST_NESTED + 1) * STRONGEST;

        private final Walk walk;
        private final Literal literal;
        private final int[] signs = new int[MOST_WAITING];
        private final int[] strengths = new int[MOST_WAITING];
        private final boolean[] skips = new boolean[MOST_WAITING];
        private final long[] amounts = new long[MOST_WAITING + 1];
        private final boolean[] plains = new boolean[MOST_WAITING + 1];
        private int waiting, held, nested, skipping;
        private boolean formed, divided;

        Reckoner(Walk walk, Literal literal) {
            this.walk = walk;
            this.literal = literal;
        }

        /** The fault, or SOUND: then the first amount is what the text comes to. */
        int run() {
            clear();
            boolean wantsOperand = true;
            for (int seen = 0; seen < MOST_BYTES && formed && walk.step(); seen++) {
                wantsOperand = wantsOperand ? takeOperand() : takeOperator();
            }
            if (!formed || wantsOperand) {
                return NO_CONDITION;
            }
            finishDownTo(CHOICE);
            if (!formed || waiting != 0 || held != 1) {
                return NO_CONDITION;
            }
            return divided ? DIVISION : SOUND;
        }

        private void clear() {
            walk.restart();
            waiting = 0;
            held = 0;
            nested = 0;
            skipping = 0;
            formed = true;
            divided = false;
        }

        /** Takes a token where an operand begins; whether one is still wanted behind it. */
        private boolean takeOperand() {
            if (walk.kind == SIGN) {
                openNest(walk.signCode());
                return true;
            }
            if (!literal.read(walk.kind, walk.start, walk.end)) {
                formed = false;
                return true;
            }
            hold(literal.amount, literal.plain);
            return false;
        }

        private void openNest(int sign) {
            nest();
            if (sign == '(') {
                await(sign, OPEN, false);
            } else if (sign == '+' || sign == '-' || sign == '~' || sign == '!') {
                await(sign, FRONT, false);
            } else {
                formed = false;
            }
        }

        /** Takes a token behind an operand; whether another operand is wanted behind it. */
        private boolean takeOperator() {
            int sign = walk.kind == SIGN ? walk.signCode() : 0;
            int strength = strengthOf(sign);
            finishDownTo(strength);
            if (!formed || held < 1 || strength == NO_STRENGTH) {
                formed = false;
                return true;
            }
            switch (sign) {
                case ')':
                    closeBracket();
                    return false;
                case '?':
                    beginChoice();
                    return true;
                case ':':
                    turnChoice();
                    return true;
                default:
                    await(sign, strength, skipsRight(sign));
                    return true;
            }
        }

        private void closeBracket() {
            if (!isOpen('(')) {
                formed = false;
                return;
            }
            endWait();
            nested--;
        }

        private void beginChoice() {
            held--;
            await('?', OPEN, amounts[held] == 0);
            nest();
        }

        /** Goes from the middle of a choice to its last part: just one of the two is needed. */
        private void turnChoice() {
            if (!isOpen('?')) {
                formed = false;
                return;
            }
            boolean middleSkipped = skips[waiting - 1];
            endWait();
            await(':', CHOICE, !middleSkipped);
        }

        private boolean isOpen(int sign) {
            return waiting > 0 && signs[waiting - 1] == sign && strengths[waiting - 1] == OPEN;
        }

        private boolean skipsRight(int sign) {
            boolean isZero = amounts[held - 1] == 0;
            return sign == AND && isZero || sign == OR && !isZero;
        }

        /** The strength down to which a sign behind an operand finishes what waits. */
        private static int strengthOf(int sign) {
            switch (sign) {
                case ')': case ':': return CHOICE;
                case '?': case OR: return WEAKEST;
                case AND: return 2;
                case '|': return 3;
                case '^': return 4;
                case '&': return 5;
                case EQUAL: case UNEQUAL: return 6;
                case '<': case '>': case AT_MOST: case AT_LEAST: return 7;
                case LEFTWARD: case RIGHTWARD: return 8;
                case '+': case '-': return 9;
                case '*': case '/': case '%': return STRONGEST;
                default: return NO_STRENGTH;
            }
        }

        private void finishDownTo(int strength) {
            for (int left = waiting; left > 0 && strengths[left - 1] >= strength; left--) {
                int sign = signs[left - 1];
                if (strengths[left - 1] == FRONT) {
                    finishFront(sign);
                } else if (strengths[left - 1] == CHOICE) {
                    finishChoice(skips[left - 1]);
                } else {
                    finishPair(sign);
                }
                endWait();
            }
        }

        private void finishFront(int sign) {
            nested--;
            if (held < 1) {
                formed = false;
                return;
            }
            int place = held - 1;
            amounts[place] = Sums.front(sign, amounts[place]);
            plains[place] = plains[place] && sign != '!';
        }

        private void finishChoice(boolean lastSkipped) {
            nested--;
            if (held < 2) {
                formed = false;
                return;
            }
            held--;
            int place = held - 1;
            if (!lastSkipped) {
                amounts[place] = amounts[held];
            }
            plains[place] = plains[place] || plains[held];
        }

        private void finishPair(int sign) {
            if (held < 2) {
                formed = false;
                return;
            }
            held--;
            int place = held - 1;
            boolean isShift = sign == LEFTWARD || sign == RIGHTWARD;
            boolean plain = plains[place] || plains[held] && !isShift;
            if ((sign == '/' || sign == '%') && amounts[held] == 0 && skipping == 0) {
                divided = true;
            }
            amounts[place] = Sums.pair(sign, amounts[place], amounts[held], plain);
            plains[place] = plain && !Sums.isTruth(sign);
        }

        private void nest() {
            nested++;
            if (nested > MOST_NESTED) {
                formed = false;
            }
        }

        private void hold(long amount, boolean plain) {
            if (held > MOST_WAITING) {
                formed = false;
                return;
            }
            amounts[held] = amount;
            plains[held] = plain;
            held++;
        }

        private void await(int sign, int strength, boolean skipsNext) {
            if (waiting >= MOST_WAITING) {
                formed = false;
                return;
            }
            signs[waiting] = sign;
            strengths[waiting] = strength;
            skips[waiting] = skipsNext;
            waiting++;
            if (skipsNext) {
                skipping++;
            }
        }

        private void endWait() {
            if (waiting > 0) {
                waiting--;
                if (skips[waiting]) {
                    skipping--;
                }
            }
        }
    }

    /** The operators on values of 64 bits, with a sign or without one. */
    private static final class Sums {
        private static final long TOP_BIT = 1L << 63;

        static long front(int sign, long right) {
            switch (sign) {
                case '-': return -right;
                case '~': return ~right;
                case '!': return right == 0 ? 1 : 0;
                default: return right;
            }
        }

        /** Whether the operator gives 1 or 0 alone. */
        static boolean isTruth(int sign) {
            switch (sign) {
                case OR: case AND: case EQUAL: case UNEQUAL:
                case '<': case '>': case AT_MOST: case AT_LEAST:
                    return true;
                default:
                    return false;
            }
        }

        static long pair(int sign, long left, long right, boolean plain) {
            if (isTruth(sign)) {
                return holds(sign, left, right, plain) ? 1 : 0;
            }
            switch (sign) {
                case '|': return left | right;
                case '^': return left ^ right;
                case '&': return left & right;
                case LEFTWARD: return left << (int) (right & 63);
                case RIGHTWARD: return plain ? left >>> (int) (right & 63) : left >> (int) (right & 63);
                case '+': return left + right;
                case '-': return left - right;
                case '*': return left * right;
                case '/': return quotient(left, right, plain);
                case '%': return left - quotient(left, right, plain) * right;
                default: return 0;
            }
        }

        private static boolean holds(int sign, long left, long right, boolean plain) {
            // Without a sign the 64th bit is the greatest: turned over, it orders like a sign.
            long turn = plain ? TOP_BIT : 0;
            switch (sign) {
                case OR: return left != 0 || right != 0;
                case AND: return left != 0 && right != 0;
                case EQUAL: return left == right;
                case UNEQUAL: return left != right;
                case '<': return (left ^ turn) < (right ^ turn);
                case '>': return (left ^ turn) > (right ^ turn);
                case AT_MOST: return (left ^ turn) <= (right ^ turn);
                case AT_LEAST: return (left ^ turn) >= (right ^ turn);
                default: return false;
            }
        }

        /** 0 for a divisor 0, which is a fault where the quotient is needed. */
        private static long quotient(long left, long right, boolean plain) {
            if (right == 0) {
                return 0;
            }
            if (!plain) {
                return left / right;
            }
            if (right < 0) {
                return (left ^ TOP_BIT) >= (right ^ TOP_BIT) ? 1 : 0;
            }
            // Halved, the left side has a sign to spare; what that may lack is one at the most.
            long near = (left >>> 1) / right << 1;
            long rest = left - near * right;
            return (rest ^ TOP_BIT) >= (right ^ TOP_BIT) ? near + 1 : near;
        }
    }
}
