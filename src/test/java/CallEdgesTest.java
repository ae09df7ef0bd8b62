import java.lang.reflect.Modifier;
import java.util.Arrays;
import java.util.Set;
import java.util.TreeSet;

/** The boundary cases of "What it is" and "The public face", sentence by sentence. */
public final class CallEdgesTest {
    private static final Check CHECK = new Check();

    public static void main(String[] args) throws ReflectiveOperationException {
        longestTexts();
        everyCallUpToTheLast();
        dearestCalls();
        constants();
        methods();
        CHECK.end();
    }

    /** Each of the seven calls as the 512th one, with the longest text that is possible before it. */
    private static void longestTexts() {
        CHECK.sentence("An object is used for at most 512 calls after it has been made");
        String sum = "1+".repeat(2043) + "1 ";
        CHECK.due("feed as the 512th call", Check.mill(sum).feed(-1L, 8), 4096);
        CHECK.due("cut as the 512th call", Check.mill(sum).cut(1), 4087);
        CHECK.due("reckon() as the 512th call", Check.mill(sum).reckon(), 0);
        CHECK.due("tokens() as the 512th call", Check.mill(sum).tokens(), 4087);
        CHECK.due("token() as the 512th call", Check.mill(sum).token(4086, 0), 4086);
        String plainSum = "1+".repeat(2036) + "1u";
        ConditionMill mill = Check.mill(plainSum);
        CHECK.due("reckon() as the 511th call", mill.reckon(), 0);
        CHECK.due("value() as the 512th call", mill.value(), 2037);
        ConditionMill other = Check.mill(plainSum);
        other.reckon();
        CHECK.due("isPlain() as the 512th call", other.isPlain(), true);
    }

    private static void everyCallUpToTheLast() {
        CHECK.sentence("An object is used for at most 512 calls after it has been made: by turns");
        ConditionMill mill = new ConditionMill();
        // 73 rounds of seven calls, and one more, make 512.
        for (int round = 1; round <= 73; round++) {
            CHECK.due("feed in round " + round, mill.feed(0x2b7531, 3), 3 * round);
            CHECK.due("cut in round " + round, mill.cut(3 * round - 1), 1);
            CHECK.due("reckon() in round " + round, mill.reckon(), 0);
            CHECK.due("value() in round " + round, mill.value(), round);
            CHECK.due("isPlain() in round " + round, mill.isPlain(), true);
            CHECK.due("tokens() in round " + round, mill.tokens(), 2 * round - 1);
            CHECK.due("feed back in round " + round, mill.feed('+', 1), 3 * round);
        }
        CHECK.due("the 512th call", mill.reckon(), 11);
    }

    /** A call that took more than the text's length in steps would be felt here. */
    private static void dearestCalls() {
        CHECK.sentence("An object is used for at most 512 calls after it has been made: with dear texts");
        String[] texts = {"'\\", "\"\\", "\\'\\\"", "L'", "(", "-~", "0?1:", "1?", "1+", "0||1&&", "1e+", ".."};
        for (String text : texts) {
            String half = text.repeat(2048 / text.length());
            ConditionMill mill = Check.mill(half);
            int tokens = mill.tokens();
            int fault = mill.reckon();
            for (int i = half.length() / 8 + 3; i < Check.MOST_CALLS; i += 2) {
                CHECK.due("tokens() of many " + text, mill.tokens(), tokens);
                CHECK.due("reckon() of many " + text, mill.reckon(), fault);
            }
        }
    }

    private static void constants() throws ReflectiveOperationException {
        CHECK.sentence("public static final int BAD = -1, FULL = -2;");
        String[] names = {"BAD", "FULL"};
        for (int i = 0; i < names.length; i++) {
            var field = ConditionMill.class.getDeclaredField(names[i]);
            CHECK.due(names[i], field.getInt(null), -1 - i);
            CHECK.due(names[i] + " is an int", field.getType() == int.class, true);
            CHECK.due(names[i] + " is public static final", field.getModifiers(),
                    Modifier.PUBLIC | Modifier.STATIC | Modifier.FINAL);
        }
    }

    private static void methods() {
        CHECK.sentence("public final class ConditionMill");
        Set<String> got = new TreeSet<>();
        for (var method : ConditionMill.class.getDeclaredMethods()) {
            if (!Modifier.isPrivate(method.getModifiers())) {
                got.add(method.toString());
            }
        }
        for (var constructor : ConditionMill.class.getDeclaredConstructors()) {
            got.add(constructor.toString());
        }
        String own = "ConditionMill.";
        Set<String> want = new TreeSet<>(Arrays.asList("public ConditionMill()", "public int " + own + "feed(long,int)",
                "public int " + own + "cut(int)", "public int " + own + "reckon()", "public long " + own + "value()",
                "public boolean " + own + "isPlain()", "public int " + own + "tokens()",
                "public int " + own + "token(int,int)"));
        if (!got.equals(want)) {
            System.out.println("the face is " + got);
        }
        CHECK.due("the methods of the face are the document's", got.equals(want), true);
    }
}
