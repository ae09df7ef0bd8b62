import java.nio.charset.StandardCharsets;

/** What the tests share: feeding texts, and telling every answer that is not the one due. */
final class Check {
    static final int MOST_CALLS = 512;

    private int asked = 0;
    private int wrong = 0;
    private String sentence = "";
    private int askedBefore = 0;

    /**
     * What is asked from here on belongs to this sentence of the document, which a wrong answer
     * tells; behind a last ": " stands what of the sentence is looked at.
     */
    void sentence(String words) {
        leaveSentence();
        sentence = words;
        askedBefore = asked;
    }

    private void leaveSentence() {
        if (!sentence.isEmpty() && asked == askedBefore) {
            wrong++;
            System.out.println("nothing was asked for \"" + sentence + "\"");
        }
    }

    void due(String call, long got, long want) {
        asked++;
        if (got != want) {
            wrong++;
            String where = sentence.isEmpty() ? "" : "\"" + sentence + "\": ";
            System.out.println(where + call + " answered " + got + ", due is " + want);
        }
    }

    void due(String call, boolean got, boolean want) {
        due(call, got ? 1 : 0, want ? 1 : 0);
    }

    /** Tells a test that would ask an object behind its 512th call, where every answer is free. */
    private void keepWithin(String text, int otherCalls) {
        int calls = (text.length() + 7) / 8 + otherCalls;
        if (calls > MOST_CALLS) {
            due("a test's calls with a text of " + text.length() + " bytes", calls, MOST_CALLS);
        }
    }

    /** A new object with this text, every character of which is one byte. */
    static ConditionMill mill(String text) {
        ConditionMill mill = new ConditionMill();
        feed(mill, text);
        return mill;
    }

    static void feed(ConditionMill mill, String text) {
        byte[] bytes = text.getBytes(StandardCharsets.ISO_8859_1);
        for (int from = 0; from < bytes.length; from += 8) {
            int n = Math.min(8, bytes.length - from);
            long packed = 0;
            for (int i = 0; i < n; i++) {
                packed |= (bytes[from + i] & 255L) << 8 * i;
            }
            mill.feed(packed, n);
        }
    }

    /** The text is a condition of this value, with a sign. */
    void signed(String text, long value) {
        sound(text, value, false);
    }

    /** The text is a condition of this value, without a sign. */
    void plain(String text, long value) {
        sound(text, value, true);
    }

    void sound(String text, long value, boolean plain) {
        keepWithin(text, 3);
        ConditionMill mill = mill(text);
        due("reckon() of " + text, mill.reckon(), 0);
        due("value() of " + text, mill.value(), value);
        due("isPlain() of " + text, mill.isPlain(), plain);
    }

    /** None of the texts is a condition. */
    void none(String... texts) {
        for (String text : texts) {
            fault(text, 11);
        }
    }

    void fault(String text, int fault) {
        keepWithin(text, 6);
        // A value from before shows whether the fault takes it away.
        ConditionMill mill = mill("~0u");
        due("reckon() of ~0u", mill.reckon(), 0);
        mill.cut(0);
        feed(mill, text);
        due("reckon() of " + text, mill.reckon(), fault);
        due("value() behind a fault in " + text, mill.value(), 0);
        due("isPlain() behind a fault in " + text, mill.isPlain(), false);
    }

    /** The row has place, length and kind of every token. */
    void tokens(String text, int... row) {
        keepWithin(text, 2 + row.length);
        ConditionMill mill = mill(text);
        int count = row.length / 3;
        due("tokens() of " + text, mill.tokens(), count);
        for (int i = 0; i < row.length; i++) {
            due("token(" + i / 3 + ", " + i % 3 + ") of " + text, mill.token(i / 3, i % 3), row[i]);
        }
        due("token behind the last one of " + text, mill.token(count, 0), ConditionMill.BAD);
    }

    /** How many tokens the text has, for texts that have too many to ask for each. */
    void count(String text, int count) {
        keepWithin(text, 1);
        due("tokens() of " + text, mill(text).tokens(), count);
    }

    void end() {
        leaveSentence();
        if (wrong != 0) {
            System.out.println(wrong + " of " + asked + " answers are not as due");
            System.exit(1);
        }
    }
}
