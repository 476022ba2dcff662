import java.lang.reflect.Constructor;
import java.lang.reflect.Field;
import java.lang.reflect.Method;
import java.lang.reflect.Modifier;
import java.util.Set;
import java.util.TreeSet;

/** The public face is the document's, and there is no other member that can be seen. */
public final class FaceTest {
    private static final Set<String> FACE = new TreeSet<>(Set.of(
            "int NONE", "int BAD", "int FULL", "int REFUSED", "int NOTHING",
            "int urn(boolean)", "int tie(int,int,int)", "int untie(int,int)", "int weak(int,int)", "int unweak(int)",
            "int name(int,int)", "int drop(int)", "int urnOf(int,int)", "int threadOf(int,int)", "int named(int)",
            "int begin()", "int step(int)", "int round()", "int rite()", "int due(int)", "int grey(int)",
            "int freed(int)", "int live()", "int liveAgain()", "int depth(int)", "int keepers(int)", "int ring(int)",
            "int wouldFree()", "int ranked(int)", "int append(int)", "int run()", "int tell(int)", "int tellHeap()",
            "int character(int)", "int reason(boolean)", "int account(int)", "int isBalanced()", "double meanHeld()",
            "float liveShare()", "int undo()", "int save()", "int restore()", "UrnHeap()"));

    public static void main(String[] args) {
        Set<String> seen = new TreeSet<>();
        for (Field field : UrnHeap.class.getDeclaredFields()) {
            if (!Modifier.isPrivate(field.getModifiers()) && !field.isSynthetic()) {
                seen.add(field.getType() + " " + field.getName());
            }
        }
        for (Method method : UrnHeap.class.getDeclaredMethods()) {
            if (!Modifier.isPrivate(method.getModifiers()) && !method.isSynthetic()) {
                seen.add(method.getReturnType() + " " + method.getName() + types(method.getParameterTypes()));
            }
        }
        for (Constructor<?> constructor : UrnHeap.class.getDeclaredConstructors()) {
            seen.add("UrnHeap" + types(constructor.getParameterTypes()));
        }
        int modifiers = UrnHeap.class.getModifiers();
        if (!seen.equals(FACE) || !Modifier.isFinal(modifiers) || !Modifier.isPublic(modifiers)) {
            System.out.println("FaceTest: due is " + FACE + ", the class has " + seen);
            System.exit(1);
        }
        System.out.println("FaceTest: the face is as due");
    }

    private static String types(Class<?>[] types) {
        StringBuilder text = new StringBuilder("(");
        for (int i = 0; i < types.length; i++) {
            text.append(i == 0 ? "" : ",").append(types[i].getName());
        }
        return text.append(")").toString();
    }
}
