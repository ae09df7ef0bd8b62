/** Promise 2: feed. */
public final class Promise2Test {
    private static final Check CHECK = new Check();

    public static void main(String[] args) {
        everyCount();
        wrongCounts();
        allBytes();
        full();
        resultStays();
        CHECK.end();
    }

    private static void everyCount() {
        long digits = 0x3837363534333231L;
        long[] values = {1, 12, 123, 1234, 12345, 123456, 1234567, 12345678};
        for (int n = 1; n <= 8; n++) {
            ConditionMill mill = new ConditionMill();
            CHECK.due("feed of " + n, mill.feed(digits, n), n);
            CHECK.due("tokens()", mill.tokens(), 1);
            CHECK.due("length", mill.token(0, 1), n);
            mill.reckon();
            CHECK.due("value() of the first " + n, mill.value(), values[n - 1]);
            CHECK.due("feed of one more", mill.feed('0', 1), n + 1);
            mill.reckon();
            CHECK.due("value() behind a 0", mill.value(), values[n - 1] * 10);
        }
    }

    private static void wrongCounts() {
        ConditionMill mill = Check.mill("42");
        int[] wrong = {0, -1, 9, 10, 64, 4096, Integer.MIN_VALUE, Integer.MAX_VALUE};
        for (int n : wrong) {
            CHECK.due("feed of " + n, mill.feed('1', n), ConditionMill.BAD);
        }
        mill.reckon();
        CHECK.due("value() behind BAD", mill.value(), 42);
        CHECK.due("feed behind BAD", mill.feed('1', 1), 3);
    }

    /** Every byte but 10, 39 and 92 comes back out of a character. */
    private static void allBytes() {
        for (int b = 0; b < 256; b++) {
            if (b == 10 || b == 39 || b == 92) {
                continue;
            }
            ConditionMill mill = new ConditionMill();
            // Above the bytes that count all bits are set.
            CHECK.due("feed", mill.feed(0xffffffffff270027L | (long) b << 8, 3), 3);
            CHECK.due("reckon() of byte " + b, mill.reckon(), 0);
            CHECK.due("value() of byte " + b, mill.value(), b);
            CHECK.due("isPlain() of byte " + b, mill.isPlain(), false);
        }
    }

    private static void full() {
        ConditionMill mill = new ConditionMill();
        for (int i = 1; i <= 511; i++) {
            CHECK.due("feed " + i, mill.feed(0x2020202020202020L, 8), 8 * i);
        }
        CHECK.due("feed up to the edge", mill.feed(0x2020202020202020L, 7), 4095);
        // The calls from here on are behind the 512th; they are tested all the same.
        CHECK.due("feed over the edge", mill.feed(0x3131L, 2), ConditionMill.FULL);
        CHECK.due("feed over the edge", mill.feed(0x3131L, 8), ConditionMill.FULL);
        CHECK.due("tokens() behind FULL", mill.tokens(), 0);
        CHECK.due("a wrong count before FULL", mill.feed(0x3131L, 9), ConditionMill.BAD);
        CHECK.due("feed of the last byte", mill.feed('7', 1), 4096);
        CHECK.due("feed of one more", mill.feed('7', 1), ConditionMill.FULL);
        CHECK.due("a wrong count at the end", mill.feed('7', 0), ConditionMill.BAD);
        CHECK.due("reckon() of a full text", mill.reckon(), 0);
        CHECK.due("value() of a full text", mill.value(), 7);
        CHECK.due("place of the last byte", mill.token(0, 0), 4095);
        CHECK.due("cut(4090)", mill.cut(4090), 6);
        CHECK.due("feed behind cut", mill.feed('7', 6), 4096);
    }

    private static void resultStays() {
        ConditionMill mill = Check.mill("5u");
        mill.reckon();
        mill.feed('+', 1);
        CHECK.due("value() behind feed", mill.value(), 5);
        CHECK.due("isPlain() behind feed", mill.isPlain(), true);
    }
}
