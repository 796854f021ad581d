import java.lang.reflect.InvocationTargetException;
import java.lang.reflect.Method;
import java.util.ArrayList;
import java.util.List;
import java.util.Map;
import java.util.Set;
import java.util.TreeMap;

/**
 * Every method of the face with every choice of arguments at an edge, in objects of many kinds,
 * beside a SlowCoder: the answer or the exception, and what later calls show. So every pair of
 * edges comes together once, also where more than one exception applies.
 */
public final class EdgesTest {
    private static final List<Integer> EDGES = List.of(Integer.MIN_VALUE, -1, 0, 1, 2, 3, 4, 5, 6, 7, 8, 9, 10, 11, 15, 16, 17,
        20, 21, 31, 32, 63, 64, 79, 80, 81, 200, 201, Integer.MAX_VALUE);
    /** For methods with three arguments, of which all choices would be too many. */
    private static final List<Integer> FEW_EDGES = List.of(Integer.MIN_VALUE, -1, 0, 1, 3, 4, 5, 15, 16, 79, 80, 81,
        Integer.MAX_VALUE);
    private static final List<Long> LONG_EDGES = List.of(Long.MIN_VALUE, -1L, 0L, 1L, 0x0123456789ABCDEFL, Long.MAX_VALUE);
    private static final Set<String> CHANGING = Set.of("append", "feed", "set", "cut", "setLimit", "setPrices", "setGreatest",
        "plan", "write", "flip", "read");

    /** A scene is a row of calls, each a name and its arguments. */
    private static final List<String> SCENES = List.of(
        "",
        "plan",
        "feed 0x2102000000000000 4",
        "feed 0x2102000000000000 4; plan",
        "feed 0x2102000000000000 4; plan; write; flip 1; read",
        "feed 0x2102000000000000 4; plan; write; flip 1; read; cut 2",
        "feed 0x2102700000000000 5; plan; write; read; cut 5; plan",
        "feed 0x0123456789ABCDEF 16; setLimit 3; setPrices 3 1; plan; write; flip 2; flip 9; read",
        "append 15 7; append 0 3; setGreatest 2; setLimit 1; setPrices 0 0; plan; write; flip 0; read",
        "append 9 79; setLimit 6; plan; write",
        "append 9 79; append 3 1; plan; write; flip 79; read");

    private static final Check CHECK = new Check();
    private static final Map<String, Method> QUICK = methodsOf(BlockCoder.class);
    private static final Map<String, Method> SLOW = methodsOf(SlowCoder.class);

    private final String scene;
    /** Used for many calls, and made anew only after one that changed it: it is slow. */
    private SlowCoder slow;
    private String shownBefore;

    private EdgesTest(String scene) {
        this.scene = scene;
        makeSlow();
    }

    public static void main(String[] args) {
        for (String scene : SCENES) {
            EdgesTest test = new EdgesTest(scene);
            for (Method method : QUICK.values()) {
                test.tryAll(method, new ArrayList<>());
            }
        }
        CHECK.finish("EdgesTest");
    }

    private static Map<String, Method> methodsOf(Class<?> type) {
        Map<String, Method> methods = new TreeMap<>();
        for (Method method : type.getDeclaredMethods()) {
            if (!java.lang.reflect.Modifier.isPrivate(method.getModifiers())) {
                methods.put(method.getName(), method);
            }
        }
        return methods;
    }

    private void makeSlow() {
        slow = new SlowCoder();
        play(slow, SLOW);
        shownBefore = shown(slow, SLOW);
    }

    private void play(Object coder, Map<String, Method> methods) {
        for (String step : scene.split("; ")) {
            if (step.isEmpty()) {
                continue;
            }
            String[] words = step.split(" ");
            Class<?>[] types = methods.get(words[0]).getParameterTypes();
            Object[] arguments = new Object[types.length];
            for (int i = 0; i < types.length; i++) {
                if (types[i] == long.class) {
                    arguments[i] = Long.decode(words[i + 1]);
                } else {
                    arguments[i] = Integer.valueOf(words[i + 1]);
                }
            }
            String answer = answerOf(coder, methods.get(words[0]), arguments);
            CHECK.same(scene + ": " + step + " is refused", "" + answer.startsWith("throws"), "false");
        }
    }

    private void tryAll(Method method, List<Object> arguments) {
        Class<?>[] types = method.getParameterTypes();
        if (arguments.size() == types.length) {
            compare(method.getName(), arguments.toArray());
            return;
        }
        List<? extends Object> choices = types.length < 3 ? EDGES : FEW_EDGES;
        if (types[arguments.size()] == long.class) {
            choices = LONG_EDGES;
        }
        for (Object choice : choices) {
            List<Object> more = new ArrayList<>(arguments);
            more.add(choice);
            tryAll(method, more);
        }
    }

    private void compare(String name, Object[] arguments) {
        BlockCoder coder = new BlockCoder();
        play(coder, QUICK);
        String call = scene + ": " + name + List.of(arguments);
        String answer = answerOf(coder, QUICK.get(name), arguments);
        CHECK.same(call, answer, answerOf(slow, SLOW.get(name), arguments));
        if (answer.startsWith("throws") || !CHANGING.contains(name)) {
            CHECK.same(call + " changes nothing", shown(coder, QUICK), shownBefore);
        } else {
            CHECK.same(call + ", later calls", shown(coder, QUICK), shown(slow, SLOW));
            makeSlow();
        }
    }

    private static String shown(Object coder, Map<String, Method> methods) {
        StringBuilder shown = new StringBuilder();
        for (String name : List.of("size", "hasPlan", "bitCount", "differences", "digest")) {
            shown.append(answerOf(coder, methods.get(name))).append(' ');
        }
        for (int index = 0; index <= 80; index++) {
            String symbol = answerOf(coder, methods.get("got"), index);
            shown.append(symbol).append(' ');
            if (symbol.startsWith("throws")) {
                break;
            }
        }
        return shown.toString();
    }

    private static String answerOf(Object coder, Method method, Object... arguments) {
        try {
            return String.valueOf(method.invoke(coder, arguments));
        } catch (InvocationTargetException e) {
            return "throws " + e.getCause().getClass().getName();
        } catch (IllegalAccessException e) {
            throw new IllegalStateException(e);
        }
    }
}
