import java.lang.reflect.Constructor;
import java.lang.reflect.Executable;
import java.lang.reflect.Field;
import java.lang.reflect.Method;
import java.lang.reflect.Modifier;
import java.util.Arrays;
import java.util.TreeSet;

/** The class has the document's face and nothing more. */
public final class FaceTest {
    private static final Check check = new Check("FaceTest");

    private static final String I = "IndexOutOfBoundsException";
    private static final String A = "IllegalArgumentException";
    private static final String S = "IllegalStateException";

    private static final String[] FACE = {
        "Tollgate()",
        "int rate(int,int) " + A + " " + S,
        "int account(int,int) " + A + " " + S,
        "long floor(int,int) " + I + " " + A + " " + S,
        "int exchange(int) " + I + " " + A,
        "int pass(int) " + A,
        "int draft(int,int) " + A,
        "long leg(int,int) " + I + " " + A + " " + S,
        "int post() " + S,
        "int reason()",
        "int turnBack(int) " + I + " " + S,
        "int ofEntry(int,int) " + I + " " + A,
        "long ofLeg(int,int,int) " + I + " " + A,
        "int hold(int,int,int) " + I + " " + A + " " + S,
        "int take(int,int,int) " + I + " " + A + " " + S,
        "int letGo(int) " + I + " " + S,
        "int close(int,int) " + I + " " + A + " " + S,
        "int open() " + S,
        "int line(int,int,int) " + I + " " + A + " " + S,
        "int match(int,int) " + I + " " + A,
        "long left(int,int) " + I + " " + A,
        "int matched(int) " + I,
        "int many(int) " + A,
        "long told(int,int) " + I + " " + A,
        "long at(int,int) " + I + " " + A,
        "long ofKind(int) " + A,
        "long earned(int,int) " + A,
        "long hadOn(int,int) " + I + " " + A,
        "int wouldMatch(int,int) " + I + " " + A,
        "long wouldClose(int) " + A,
        "double meanLegs()",
        "long digest()",
    };

    public static void main(String[] args) {
        TreeSet<String> due = new TreeSet<>(Arrays.asList(FACE));
        TreeSet<String> there = new TreeSet<>();
        for (Constructor<?> made : Tollgate.class.getDeclaredConstructors()) {
            there.add("Tollgate" + parametersAndThrows(made));
        }
        for (Method method : Tollgate.class.getDeclaredMethods()) {
            if (!Modifier.isPrivate(method.getModifiers())) {
                there.add(method.getReturnType().getSimpleName() + " " + method.getName()
                        + parametersAndThrows(method));
            }
        }
        check.holds("the face is " + there + ", due is " + due, there.equals(due));
        for (Field field : Tollgate.class.getDeclaredFields()) {
            check.holds(field.getName() + " is not private", Modifier.isPrivate(field.getModifiers()));
        }
        int modifiers = Tollgate.class.getModifiers();
        check.holds("the class is not public and final",
                Modifier.isPublic(modifiers) && Modifier.isFinal(modifiers));
        check.end();
    }

    private static String parametersAndThrows(Executable member) {
        StringBuilder text = new StringBuilder("(");
        for (Class<?> type : member.getParameterTypes()) {
            text.append(text.length() > 1 ? "," : "").append(type.getSimpleName());
        }
        text.append(")");
        for (Class<?> type : member.getExceptionTypes()) {
            text.append(" ").append(type.getSimpleName());
        }
        return text.toString();
    }
}
