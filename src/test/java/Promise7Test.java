/** Promise 7: tokens tells how many tokens the text has. */
public final class Promise7Test {
    private static final Check CHECK = new Check();

    public static void main(String[] args) {
        CHECK.count("", 0);
        CHECK.count(" \t\n\u000b\f\r", 0);
        CHECK.count("a", 1);
        CHECK.count(" a ", 1);
        CHECK.count("a b", 2);
        CHECK.count("a\tb\nc\u000bd\fe\rf", 6);
        CHECK.count("a+b", 3);
        CHECK.count("a+++++b", 5);
        CHECK.count("1e+5", 1);
        CHECK.count("1f+5", 3);
        CHECK.count("\"a b\" 'c d'", 2);
        CHECK.count("\"a b", 3);
        CHECK.count("1+(2 @ 3)", 7);
        CHECK.count("@@@", 3);
        CHECK.count("\u001c\u001f\b\u000e\0", 5);
        CHECK.count("\u0080\u00a0\u00ff", 3);
        // 511 calls bring 4088 bytes; the 512th asks.
        CHECK.count("+".repeat(4088), 2044);
        CHECK.count("(".repeat(4088), 4088);
        CHECK.count("a".repeat(4088), 1);
        CHECK.count(" ".repeat(4088), 0);
        CHECK.count(" ".repeat(4087) + "a", 1);
        CHECK.count("a ".repeat(2044), 2044);
        CHECK.count("\\\"".repeat(2044), 4088);
        CHECK.count("\"\\".repeat(2044), 4088);

        ConditionMill mill = Check.mill("a b c");
        CHECK.due("tokens()", mill.tokens(), 3);
        CHECK.due("tokens() again", mill.tokens(), 3);
        mill.cut(3);
        CHECK.due("tokens() behind cut", mill.tokens(), 2);
        Check.feed(mill, "d");
        CHECK.due("tokens() behind feed", mill.tokens(), 2);
        mill.reckon();
        CHECK.due("tokens() behind reckon()", mill.tokens(), 2);
        Check.feed(mill, " \"x");
        CHECK.due("tokens() of an open quote", mill.tokens(), 4);
        Check.feed(mill, "\"");
        CHECK.due("tokens() of a closed quote", mill.tokens(), 3);
        CHECK.end();
    }
}
