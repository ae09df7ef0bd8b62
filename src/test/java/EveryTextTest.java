import java.util.ArrayList;
import java.util.List;

/** Every short text of some pieces, held against the second program: nothing is left to luck. */
public final class EveryTextTest {
    private static final Check CHECK = new Check();
    private static final Reference REFERENCE = new Reference(CHECK);

    public static void main(String[] args) {
        tokens();
        numbers();
        characters();
        conditions();
        CHECK.end();
    }

    /** All rows of up to so many of the pieces. */
    private static void every(int most, String between, String... pieces) {
        List<String> row = List.of("");
        for (int size = 1; size <= most; size++) {
            List<String> longer = new ArrayList<>();
            for (String text : row) {
                for (String piece : pieces) {
                    longer.add(text.isEmpty() ? piece : text + between + piece);
                }
            }
            longer.forEach(REFERENCE::compare);
            row = longer;
        }
    }

    private static void tokens() {
        CHECK.sentence("It consists of TOKENS with blanks between");
        every(2, "", bytes());
        every(6, "", "'", "\"", "\\", "L", "\n", "a");
        every(5, "", "1", ".", "e", "P", "+", "-", "x", " ");
        every(4, "", ".", "<", ">", "=", "-", "+", "&", "|", "#", "!", "*", "?");
    }

    private static String[] bytes() {
        String[] bytes = new String[256];
        for (int b = 0; b < 256; b++) {
            bytes[b] = String.valueOf((char) b);
        }
        return bytes;
    }

    private static void numbers() {
        CHECK.sentence("NUMBERS: digits (base 8 behind a 0, base 16 behind 0x or 0X), perhaps with u and l or ll behind");
        every(5, "", "0", "1", "8", "x", "X", "f", "u", "U", "l", "L");
    }

    private static void characters() {
        CHECK.sentence("CHARACTERS, without L, of one byte (0 .. 255) or one of");
        for (String first : bytes()) {
            REFERENCE.compare("'" + first + "'");
            REFERENCE.compare("L'" + first + "'");
            for (String second : bytes()) {
                REFERENCE.compare("'" + first + second + "'");
            }
        }
    }

    private static void conditions() {
        CHECK.sentence("A CONDITION has");
        every(5, " ", "0", "2u", "(", ")", "-", "!", "?", ":", "&&", "||", "/");
        every(7, " ", "1", "?", ":", "/0");
        every(7, "", "0", "(", ")", "-", "&&");
        every(9, "", "a", "?", ":");
        operators();
    }

    /** Every two and three operators behind one another, on values where the order shows. */
    private static void operators() {
        CHECK.sentence("by rising strength");
        List<String> signs = new ArrayList<>();
        for (String[] level : Reference.LEVELS) {
            signs.addAll(List.of(level));
        }
        for (String first : signs) {
            for (String second : signs) {
                for (String third : signs) {
                    REFERENCE.compare("-7" + first + "5u" + second + "3" + third + "2");
                    REFERENCE.compare("9" + first + "0" + second + "-4" + third + "6");
                }
                REFERENCE.compare("0" + first + "4?7" + second + "3:5" + first + "2" + second + "1");
            }
        }
    }
}
