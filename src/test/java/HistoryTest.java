import java.nio.charset.StandardCharsets;
import java.util.Random;

/**
 * Runs of 512 calls with wild arguments: what an object answers depends on its text and its latest
 * reckon() alone, so that a new object with the same text answers the same; and no call throws.
 */
public final class HistoryTest {
    private static final Check CHECK = new Check();
    private static final String[] SCRAPS = {"1", "0", "a", "u", "+", "-", "(", ")", "?", ":", "&&", "||", "/", "%", "'", "\"",
        "\\", "\n", " ", "L", "0x", "<", "=", "@", "\u00ff", ".", "~!"};
    private static final int[] WILD = {Integer.MIN_VALUE, -1, 0, 1, 2, 3, 8, 9, 4095, 4096, 4097, Integer.MAX_VALUE};

    private final Random random;
    private final ConditionMill mill = new ConditionMill();
    private String text = "";
    private ConditionMill latest = new ConditionMill();

    private HistoryTest(Random random) {
        this.random = random;
    }

    public static void main(String[] args) {
        Random random = new Random(6);
        for (int run = 0; run < 300; run++) {
            HistoryTest test = new HistoryTest(random);
            for (int call = 0; call < Check.MOST_CALLS; call++) {
                test.anyCall();
            }
        }
        CHECK.end();
    }

    private void anyCall() {
        switch (random.nextInt(8)) {
            case 0: case 1: feed(); break;
            case 2: cut(); break;
            case 3: reckon(); break;
            case 4: CHECK.due("value() of " + text, mill.value(), latest.value()); break;
            case 5: CHECK.due("isPlain() of " + text, mill.isPlain(), latest.isPlain()); break;
            case 6: CHECK.due("tokens() of " + text, mill.tokens(), Check.mill(text).tokens()); break;
            default: token(); break;
        }
    }

    private int number(int bound) {
        return random.nextInt(4) == 0 ? WILD[random.nextInt(WILD.length)] : random.nextInt(bound + 2) - 1;
    }

    private void feed() {
        StringBuilder bytes = new StringBuilder();
        while (bytes.length() < 8) {
            bytes.append(SCRAPS[random.nextInt(SCRAPS.length)]);
        }
        byte[] row = bytes.toString().getBytes(StandardCharsets.ISO_8859_1);
        long packed = 0;
        for (int i = 0; i < 8; i++) {
            packed |= (row[i] & 255L) << 8 * i;
        }
        int n = number(9);
        boolean isBad = n < 1 || n > 8;
        if (!isBad) {
            text += bytes.substring(0, n);
        }
        CHECK.due("feed of " + n, mill.feed(packed, n), isBad ? ConditionMill.BAD : text.length());
    }

    private void cut() {
        int n = number(text.length() + 1);
        boolean isBad = n < 0 || n > text.length();
        CHECK.due("cut(" + n + ") of " + text.length(), mill.cut(n), isBad ? ConditionMill.BAD : text.length() - n);
        if (!isBad) {
            text = text.substring(0, n);
        }
    }

    private void reckon() {
        latest = Check.mill(text);
        CHECK.due("reckon() of " + text, mill.reckon(), latest.reckon());
    }

    private void token() {
        int i = number(text.length());
        int what = number(3);
        CHECK.due("token(" + i + ", " + what + ") of " + text, mill.token(i, what), Check.mill(text).token(i, what));
    }
}
