import java.lang.reflect.Member;
import java.lang.reflect.Modifier;
import java.util.Set;
import java.util.TreeSet;

/** The public face is the document's, and nothing else is seen outside the class. */
public final class FaceTest {
    public static void main(String[] args) {
        Check check = new Check();
        Set<String> want = Set.of("BAD", "FULL", "ConditionMill", "feed", "cut", "reckon", "value", "isPlain",
                "tokens", "token");
        Set<String> got = new TreeSet<>();
        Class<?> face = ConditionMill.class;
        collect(face.getDeclaredFields(), got);
        collect(face.getDeclaredMethods(), got);
        collect(face.getDeclaredConstructors(), got);
        if (!got.equals(want)) {
            System.out.println("the face is " + got);
        }
        check.due("the face", got.equals(want), true);
        check.due("public final", face.getModifiers(), Modifier.PUBLIC | Modifier.FINAL);
        check.end();
    }

    private static void collect(Member[] members, Set<String> names) {
        for (Member member : members) {
            if (!Modifier.isPrivate(member.getModifiers())) {
                names.add(member.getName());
            }
        }
    }
}
