/** Promise 3: cut. */
public final class Promise3Test {
    public static void main(String[] args) {
        Check check = new Check();
        ConditionMill mill = Check.mill("12345u");
        check.due("cut(7)", mill.cut(7), ConditionMill.BAD);
        check.due("cut(-1)", mill.cut(-1), ConditionMill.BAD);
        check.due("cut(MIN)", mill.cut(Integer.MIN_VALUE), ConditionMill.BAD);
        check.due("cut(MAX)", mill.cut(Integer.MAX_VALUE), ConditionMill.BAD);
        check.due("reckon() behind BAD", mill.reckon(), 0);
        check.due("value() behind BAD", mill.value(), 12345);
        check.due("isPlain() behind BAD", mill.isPlain(), true);
        check.due("cut(6)", mill.cut(6), 0);
        check.due("cut(2)", mill.cut(2), 4);
        check.due("value() stays behind cut", mill.value(), 12345);
        check.due("isPlain() stays behind cut", mill.isPlain(), true);
        check.due("cut(3) of 2", mill.cut(3), ConditionMill.BAD);
        check.due("reckon() behind cut", mill.reckon(), 0);
        check.due("value() behind cut", mill.value(), 12);
        check.due("isPlain() behind cut", mill.isPlain(), false);
        check.due("length behind cut", mill.token(0, 1), 2);
        check.due("feed behind cut", mill.feed('9', 1), 3);
        mill.reckon();
        check.due("value() behind cut and feed", mill.value(), 129);
        check.due("cut(0)", mill.cut(0), 3);
        check.due("cut(0) again", mill.cut(0), 0);
        check.due("tokens() of nothing", mill.tokens(), 0);
        check.due("reckon() of nothing", mill.reckon(), 11);

        // What was cut away must not close a quote or go on a token.
        ConditionMill quote = Check.mill("'a'");
        check.due("cut(2)", quote.cut(2), 1);
        check.due("tokens() of an open quote", quote.tokens(), 2);
        check.due("kind of an open quote", quote.token(0, 2), 6);
        String[] longer = {"++", "->", "...", "<<=", ">>=", "&&", "ab", "12", "1.", "1e+", "\"\"", "L''", "'a'"};
        for (String text : longer) {
            ConditionMill mark = Check.mill("@" + text);
            int last = text.length();
            check.due("cut of the last byte of " + text, mark.cut(last), 1);
            int token = mark.tokens() - 1;
            int end = mark.token(token, 0) + mark.token(token, 1);
            check.due("end of the last token of " + text + " behind cut", end, last);
        }
        ConditionMill point = Check.mill(".5");
        point.cut(1);
        check.due("kind of a point behind cut", point.token(0, 2), 5);
        ConditionMill escape = Check.mill("'\\\n");
        escape.cut(2);
        Check.feed(escape, "n'");
        check.due("reckon() of a character behind cut", escape.reckon(), 0);
        check.due("value() of a character behind cut", escape.value(), 10);
        check.end();
    }
}
