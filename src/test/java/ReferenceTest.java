import java.util.Random;

/** Grown and spoilt texts, held against the second program. */
public final class ReferenceTest {
    private static final String[] LEAVES = {"0", "1", "2", "3", "7", "0u", "1u", "5ull", "a", "'a'", "'\\n'", "'\u00ff'",
        "0x8000000000000000", "0xffffffffffffffff", "9223372036854775807", "18446744073709551615u", "0777", "63", "64",
        "0x7fffffffffffffffLU", "4294967296", "10lu", "(1/0)", "0", "1"};
    private static final String[] SCRAPS = {"'", "\"", "\\", "\n", "L", "L'", "e", "E+", "p-", ".", "..", "1", "0", "x", "u",
        "l", "L", "ll", "+", "-", "<", ">", "=", "&", "|", "!", "~", "?", ":", "(", ")", "*", "/", "%", "^", "#", " ", "@",
        "\u00e9", "_", "8", "9", "f", "\t", "\r", ",", ";", "[", "{", "0x", "'a'", "\0", "n"};

    private static String grow(Random random, int depth) {
        int turn = random.nextInt(12);
        if (depth == 0 || turn < 2) {
            return LEAVES[random.nextInt(LEAVES.length)];
        }
        String blank = random.nextInt(3) == 0 ? " " : "";
        if (turn < 4) {
            return "+-~!".charAt(random.nextInt(4)) + " " + grow(random, depth - 1);
        }
        if (turn < 6) {
            return "(" + blank + grow(random, depth - 1) + blank + ")";
        }
        if (turn == 6) {
            return grow(random, depth - 1) + "?" + blank + grow(random, depth - 1) + ":" + grow(random, depth - 1);
        }
        String[] level = Reference.LEVELS[random.nextInt(Reference.LEVELS.length)];
        return grow(random, depth - 1) + blank + level[random.nextInt(level.length)] + " " + grow(random, depth - 1);
    }

    private static String nest(Random random) {
        StringBuilder open = new StringBuilder();
        StringBuilder close = new StringBuilder();
        for (int left = 57 + random.nextInt(6); left > 0; left--) {
            switch (random.nextInt(6)) {
                case 0: open.append("(3*2+"); close.insert(0, "||0)"); break;
                case 1: open.append("~ "); break;
                case 2: open.append("!"); break;
                case 3: open.append("0?(5):"); break;
                case 4: open.append("1?"); close.insert(0, ":-1"); break;
                default: open.append("("); close.insert(0, ")"); break;
            }
        }
        return open + "1" + close;
    }

    private static String spoil(Random random, String text) {
        int place = random.nextInt(text.length() + 1);
        String scrap = SCRAPS[random.nextInt(SCRAPS.length)];
        int behind = Math.min(text.length(), place + random.nextInt(2));
        return text.substring(0, place) + scrap + text.substring(behind);
    }

    private static String scraps(Random random) {
        StringBuilder text = new StringBuilder();
        for (int left = random.nextInt(30); left > 0; left--) {
            text.append(SCRAPS[random.nextInt(SCRAPS.length)]);
        }
        return text.toString();
    }

    public static void main(String[] args) {
        Check check = new Check();
        Reference reference = new Reference(check);
        Random random = new Random(20);
        for (int i = 0; i < 20000; i++) {
            String grown = grow(random, 1 + random.nextInt(5));
            reference.compare(grown);
            if (i % 3 == 0) {
                reference.compare(spoil(random, grown));
                reference.compare(scraps(random));
            }
            if (i % 10 == 0) {
                reference.compare(nest(random));
            }
        }
        for (int fault : new int[] {0, 11, 12}) {
            check.due("enough texts of fault " + fault, reference.seen(fault) > 2000, true);
        }
        check.end();
    }
}
