/** Promise 7: tokens tells how many tokens the text has. */
public final class Promise7Test {
    private static final Check CHECK = new Check();

    public static void main(String[] args) {
        count("", 0);
        count(" \t\n\u000b\f\r", 0);
        count("a", 1);
        count(" a ", 1);
        count("a b", 2);
        count("a\tb\nc\u000bd\fe\rf", 6);
        count("a+b", 3);
        count("a+++++b", 5);
        count("1e+5", 1);
        count("1f+5", 3);
        count("\"a b\" 'c d'", 2);
        count("\"a b", 3);
        count("1+(2 @ 3)", 7);
        count("@@@", 3);
        count("\u001c\u001f\b\u000e\0", 5);
        count("\u0080\u00a0\u00ff", 3);
        count("+".repeat(4096), 2048);
        count("(".repeat(4096), 4096);
        count("a".repeat(4096), 1);
        count(" ".repeat(4096), 0);
        count(" ".repeat(4095) + "a", 1);
        count("a ".repeat(2048), 2048);
        count("\\\"".repeat(2048), 4096);
        count("\"\\".repeat(2048), 4096);

        ConditionMill mill = Check.mill("a b c");
        CHECK.due("tokens()", mill.tokens(), 3);
        CHECK.due("tokens() again", mill.tokens(), 3);
        mill.cut(3);
        CHECK.due("tokens() behind cut", mill.tokens(), 2);
        Check.feed(mill, "d");
        CHECK.due("tokens() behind feed", mill.tokens(), 2);
        mill.reckon();
        CHECK.due("tokens() behind reckon()", mill.tokens(), 2);
        Check.feed(mill, " \"x");
        CHECK.due("tokens() of an open quote", mill.tokens(), 4);
        Check.feed(mill, "\"");
        CHECK.due("tokens() of a closed quote", mill.tokens(), 3);
        CHECK.end();
    }

    private static void count(String text, int count) {
        CHECK.due("tokens() of " + text, Check.mill(text).tokens(), count);
    }
}
