import java.lang.reflect.InvocationTargetException;
import java.lang.reflect.Method;
import java.util.NoSuchElementException;

/**
 * Numbers from all over the range in every place of every call, in several states: no call throws but look(),
 * and every answer is that of the slow writing, which shares no line with the class.
 */
public final class ExtremesTest {
    private static final int[] NUMBERS = {Integer.MIN_VALUE, Integer.MIN_VALUE + 1, -65536, -41, -10, -9, -3, -2, -1, 0, 1,
        2, 3, 4, 5, 6, 7, 8, 9, 10, 20, 21, 39, 40, 41, 99, 100, 124, 125, 199, 200, 201, 400, 401, 65536, 1 << 30,
        Integer.MAX_VALUE - 1, Integer.MAX_VALUE};
    /** Calls of one state go to one object, of which none is used for more than this. */
    private static final int MOST_CALLS = 400;

    private static HighFall fast;
    private static SlowFall slow;
    private static int calls;

    private static void start(int scene) {
        fast = new HighFall();
        slow = new SlowFall();
        calls = 0;
        if (scene == 0) return;
        int n = scene == 1 ? 1 : 5;
        fast.stair(n);
        slow.stair(n);
        fast.kind(1, -3, 2, 7);
        slow.kind(1, -3, 2, 7);
        // "fall 0 low+1;" and blanks
        int[] text = {0x66616c6c, 0x2030206c, 0x6f772b31, 0x3b202020, 0x20202020};
        fast.feed(text[0], text[1], text[2], text[3], text[4]);
        slow.feed(text[0], text[1], text[2], text[3], text[4]);
        fast.plan(20);
        slow.plan(20);
        fast.note(2, 1, 1, true);
        slow.note(2, 1, 1, true);
        fast.strike(0);
        slow.strike(0);
        fast.begin(5);
        slow.begin(5);
        fast.drop(0, 1);
        slow.drop(0, 1);
    }

    private static long answer(Method method, Object object, Object[] values) throws IllegalAccessException {
        try {
            Object answer = method.invoke(object, values);
            return answer instanceof Boolean ? ((Boolean) answer ? 1 : 0) : ((Number) answer).longValue();
        } catch (InvocationTargetException thrown) {
            Throwable cause = thrown.getCause();
            if (method.getName().equals("look") && cause.getClass() == IndexOutOfBoundsException.class) return 1L << 40;
            if (method.getName().equals("look") && cause.getClass() == NoSuchElementException.class) return 1L << 41;
            System.out.println(method.getName() + " throws " + cause);
            return 1L << 42;
        }
    }

    private static void ask(Method method, Method plain, Object[] values, int scene) throws IllegalAccessException {
        if (fast == null || calls >= MOST_CALLS) start(scene);
        calls++;
        StringBuilder name = new StringBuilder("scene " + scene + ": " + method.getName());
        for (Object value : values) name.append(' ').append(value);
        Due.due(name.toString(), answer(method, fast, values), answer(plain, slow, values));
    }

    /** Places beyond the second are walked through with the others, so that there are not too many calls. */
    private static void askAll(Method method, int scene) throws IllegalAccessException, NoSuchMethodException {
        Class<?>[] types = method.getParameterTypes();
        Method plain = SlowFall.class.getDeclaredMethod(method.getName(), types);
        fast = null;
        Object[] values = new Object[types.length];
        int first = types.length > 0 ? NUMBERS.length : 1;
        int second = types.length > 1 ? NUMBERS.length : 1;
        for (int i = 0; i < first; i++) {
            for (int j = 0; j < second; j++) {
                for (int place = 0; place < types.length; place++) {
                    int at = place == 0 ? i : place == 1 ? j : (i * 7 + j * 11 + place * 5) % NUMBERS.length;
                    values[place] = types[place] == boolean.class ? (Object) ((i + j) % 2 == 0) : (Object) NUMBERS[at];
                }
                ask(method, plain, values, scene);
            }
        }
    }

    /** One place has any number while the others have right ones. */
    private static void askEach(Method method, int[] right, int scene) throws IllegalAccessException, NoSuchMethodException {
        Class<?>[] types = method.getParameterTypes();
        Method plain = SlowFall.class.getDeclaredMethod(method.getName(), types);
        fast = null;
        for (int place = 0; place < types.length; place++) {
            if (types[place] == boolean.class) continue;
            for (int number : NUMBERS) {
                Object[] values = new Object[types.length];
                for (int i = 0; i < types.length; i++) {
                    values[i] = types[i] == boolean.class ? (Object) true : (Object) (i == place ? number : right[i]);
                }
                ask(method, plain, values, scene);
            }
        }
    }

    private static int[] rightOnes(String name) {
        switch (name) {
            case "kind": return new int[] {1, 1, 1, 1};
            case "next": return new int[] {2, 0, 1, 7, 2};
            case "note": return new int[] {1, 1, 1};
            case "weak": case "rounds": case "lies": case "drop": return new int[] {1, 1};
            default: return new int[] {0, 0, 0, 0, 0};
        }
    }

    public static void main(String[] args) throws IllegalAccessException, NoSuchMethodException {
        for (int scene = 0; scene < 3; scene++) {
            for (Method method : HighFall.class.getDeclaredMethods()) {
                if (!java.lang.reflect.Modifier.isPublic(method.getModifiers())) continue;
                // a high stair would make the slow one too slow
                if (!method.getName().equals("lies")) askAll(method, scene);
                askEach(method, rightOnes(method.getName()), scene);
            }
        }
        Due.end();
    }
}
