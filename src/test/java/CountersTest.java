import java.lang.reflect.Field;
import java.lang.reflect.InvocationTargetException;
import java.lang.reflect.Method;
import java.lang.reflect.Modifier;
import java.util.Arrays;
import java.util.Comparator;
import java.util.List;
import java.util.Set;

/**
 * No call throws by itself, in any state: also if a counter has gone on for so long that it comes to
 * the end of int, where no test of 512 calls can bring it.
 */
public final class CountersTest {
    private static final Set<String> COUNTERS =
            Set.of("roundsOver", "urnsMade", "urnsFreed", "ritesDone", "weaksCut", "partsDone");
    private static final int[] ENDS = {Integer.MAX_VALUE, Integer.MAX_VALUE - 7, -1, -7, Integer.MIN_VALUE};
    private static final int[] FAR = {-1, 24, 100, Integer.MAX_VALUE, Integer.MIN_VALUE};
    private static final int CALLS = 512;

    private static long seed = 9;
    private static int wrong = 0;

    public static void main(String[] args) throws Exception {
        Method[] face = Arrays.stream(UrnHeap.class.getDeclaredMethods())
                .filter(method -> Modifier.isPublic(method.getModifiers()))
                .sorted(Comparator.comparing(Method::getName)).toArray(Method[]::new);
        Field heapField = UrnHeap.class.getDeclaredField("heap");
        heapField.setAccessible(true);
        int counters = 0;
        for (Field field : heapField.getType().getDeclaredFields()) {
            if (COUNTERS.contains(field.getName())) {
                counters++;
                field.setAccessible(true);
                for (int end : ENDS) {
                    UrnHeap x = new UrnHeap();
                    field.setInt(heapField.get(x), end);
                    callAll(x, face, field.getName() + " at " + end);
                }
            }
        }
        if (counters != COUNTERS.size()) {
            wrong++;
            System.out.println("CountersTest: the heap has " + counters + " of the counters " + List.copyOf(COUNTERS));
        }
        System.out.println("CountersTest: " + counters + " counters, " + wrong + " wrong");
        if (wrong != 0) {
            System.exit(1);
        }
    }

    private static void callAll(UrnHeap x, Method[] face, String state) throws IllegalAccessException {
        for (int call = 0; call < CALLS; call++) {
            // Urns that are made and freed again and again move most of the counters.
            Method method = face[pick(face.length)];
            String name = call % 4 == 1 ? "urn" : call % 16 == 0 ? "round" : method.getName();
            method = Arrays.stream(face).filter(one -> one.getName().equals(name)).findFirst().orElse(method);
            Object[] arguments = arguments(method);
            try {
                method.invoke(x, arguments);
            } catch (InvocationTargetException thrown) {
                wrong++;
                System.out.println(state + ": " + name + Arrays.toString(arguments) + " threw " + thrown.getCause());
                return;
            }
        }
    }

    private static Object[] arguments(Method method) {
        Object[] arguments = new Object[method.getParameterCount()];
        for (int i = 0; i < arguments.length; i++) {
            boolean isFlag = method.getParameterTypes()[i] == boolean.class;
            arguments[i] = isFlag ? (Object) (pick(2) == 0) : (Object) number(method.getName());
        }
        return arguments;
    }

    private static int number(String method) {
        if (method.equals("append")) {
            return "urn;round".charAt(pick(9));
        }
        return pick(8) == 0 ? FAR[pick(FAR.length)] : pick(6);
    }

    private static int pick(int bound) {
        seed = seed * 6364136223846793005L + 1442695040888963407L;
        return (int) ((seed >>> 33) % bound);
    }
}
