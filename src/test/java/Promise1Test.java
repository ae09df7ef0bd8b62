/** Promise 1: a new object has an empty text and nothing reckoned. */
public final class Promise1Test {
    public static void main(String[] args) {
        Check check = new Check();
        ConditionMill mill = new ConditionMill();
        check.due("value() at first", mill.value(), 0);
        check.due("isPlain() at first", mill.isPlain(), false);
        check.due("tokens() at first", mill.tokens(), 0);
        check.due("token(0, 0) at first", mill.token(0, 0), ConditionMill.BAD);
        check.due("cut(1) at first", mill.cut(1), ConditionMill.BAD);
        check.due("cut(0) at first", mill.cut(0), 0);
        check.due("reckon() at first", mill.reckon(), 11);

        ConditionMill used = Check.mill("~0u");
        used.reckon();
        ConditionMill other = new ConditionMill();
        check.due("value() of another object", other.value(), 0);
        check.due("isPlain() of another object", other.isPlain(), false);
        check.due("feed on another object", other.feed('7', 1), 1);
        check.due("reckon() of another object", other.reckon(), 0);
        check.due("value() of another object", other.value(), 7);
        check.due("value() of the first object", used.value(), -1);
        check.due("BAD", ConditionMill.BAD, -1);
        check.due("FULL", ConditionMill.FULL, -2);
        check.end();
    }
}
