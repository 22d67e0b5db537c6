import java.lang.reflect.InvocationTargetException;
import java.lang.reflect.Method;
import java.lang.reflect.Modifier;
import java.util.ArrayList;
import java.util.Arrays;
import java.util.Comparator;
import java.util.List;
import java.util.NoSuchElementException;
import java.util.Random;
import java.util.TreeMap;

/** Any call with any arguments in any state: it throws what is due, or else nothing, and then it changes nothing. */
final class AnyCallTests {
    private static final Class<?> ARGUMENT = IllegalArgumentException.class;
    private static final Class<?> STATE = IllegalStateException.class;
    private static final Class<?> INDEX = IndexOutOfBoundsException.class;
    private static final Class<?> ELEMENT = NoSuchElementException.class;
    private static final List<String> TELLING = List.of("add", "setRegister", "setWord", "setWidth", "setBuffer",
            "setQueue", "setInner", "setHandlers", "setTime", "interrupt", "run");
    private static final int[] EDGES = {-1, 0, 1, 2, 3, 4, 7, 8, 9, 10, 15, 16, 17, 21, 22, 24, 25, 30, 31, 60, 61, 63,
            64, -2, 65, 500, 501, Integer.MAX_VALUE, Integer.MIN_VALUE};
    private static final Due due = new Due();
    private static final List<Method> face = face();
    /** How often each method threw each exception, and nothing. */
    private static final TreeMap<String, Integer> seen = new TreeMap<>();

    private static int fullPrograms = 0;

    private final Random random;
    private final Reorderium core = new Reorderium();
    private int instructions;
    private int inner = 16;
    /** The code at each place. */
    private final int[] codes = new int[64];

    private AnyCallTests(int seed) {
        random = new Random(seed);
    }

    public static void main(String[] args) throws IllegalAccessException {
        due.same("the methods of the face", face.size(), 50);
        for (int seed = 0; seed < 400; seed++) {
            new AnyCallTests(seed).makeCalls();
        }
        for (Method method : face) {
            due.same(method.getName() + " goes through", seen.containsKey(method.getName() + " nothing"), true);
            for (Class<?> thrown : method.getExceptionTypes()) {
                String what = method.getName() + " " + thrown.getSimpleName();
                due.same(what + " is seen", seen.containsKey(what), true);
            }
        }
        due.same("a full program is seen: " + fullPrograms, fullPrograms > 5, true);
        due.end();
    }

    /** Without fetching(): nothing else that can be asked tells whether it throws; ModelTests compares it. */
    private static List<Method> face() {
        List<Method> methods = new ArrayList<>();
        for (Method method : Reorderium.class.getDeclaredMethods()) {
            if (Modifier.isPublic(method.getModifiers()) && !method.getName().equals("fetching")) {
                methods.add(method);
            }
        }
        methods.sort(Comparator.comparing(Method::getName));
        return methods;
    }

    private void makeCalls() throws IllegalAccessException {
        int telling = random.nextInt(150);
        for (int i = 0; i < 300; i++) {
            Method method = face.get(random.nextInt(face.size()));
            if (i < telling) {
                method = named(random.nextInt(3) > 0 ? "add" : TELLING.get(random.nextInt(8)));
            } else if (random.nextInt(6) == 0) {
                method = named(TELLING.get(8 + random.nextInt(3)));
            }
            makeCall(method, arguments(method));
        }
        for (int i = 0; i < 12; i++) {
            int left = 500 - core.cycle();
            makeCall(named("run"), new Object[] {left + 1});
            makeCall(named("run"), new Object[] {random.nextInt(3) == 0 ? left : Math.min(left, 60)});
        }
    }

    private static Method named(String name) {
        for (Method method : face) {
            if (method.getName().equals(name)) {
                return method;
            }
        }
        throw new IllegalStateException(name);
    }

    private Object[] arguments(Method method) {
        Class<?>[] types = method.getParameterTypes();
        Object[] arguments = new Object[types.length];
        int oneOf = types.length == 5 ? 20 : 4;
        for (int i = 0; i < types.length; i++) {
            if (types[i] == char.class) {
                arguments[i] = "itfqxmbdeazT\0\uffff".charAt(random.nextInt(14));
            } else if (random.nextInt(oneOf) == 0) {
                arguments[i] = EDGES[random.nextInt(EDGES.length)];
            } else if (method.getName().equals("add")) {
                arguments[i] = random.nextInt(i == 0 ? 22 : i == 4 ? 20 : 8);
            } else {
                arguments[i] = random.nextInt(20);
            }
        }
        return arguments;
    }

    private void makeCall(Method method, Object[] arguments) throws IllegalAccessException {
        String what = method.getName() + Arrays.toString(arguments);
        Class<?> wanted = dueBy(method.getName(), arguments);
        String before = Model.look(core);
        Class<?> got = null;
        try {
            Object answer = method.invoke(core, arguments);
            note(method.getName(), arguments, answer);
        } catch (InvocationTargetException thrown) {
            got = thrown.getCause().getClass();
            StackTraceElement[] trace = thrown.getCause().getStackTrace();
            due.same(what + " throws by itself", trace.length > 0 && trace[0].getClassName().equals("Reorderium"), true);
        }
        due.same(what + " threw", got, wanted);
        if (got != null || !TELLING.contains(method.getName())) {
            due.same(what + " changed nothing", Model.look(core), before);
        }
        seen.merge(method.getName() + " " + (got == null ? "nothing" : got.getSimpleName()), 1, Integer::sum);
    }

    private void note(String name, Object[] arguments, Object answer) {
        if (name.equals("add")) {
            due.same("the place", answer, instructions);
            if (instructions < 64) {
                codes[instructions] = (Integer) arguments[0];
            }
            instructions++;
            fullPrograms += instructions == 64 ? 1 : 0;
        } else if (name.equals("setInner")) {
            due.same("the number of inner registers", answer, inner);
            inner = (Integer) arguments[0];
        }
    }

    /** The first one that the document lists for such a call, or null. */
    private Class<?> dueBy(String name, Object[] given) {
        int[] x = new int[5];
        for (int i = 0; i < given.length; i++) {
            x[i] = given[i] instanceof Character sign ? sign : (Integer) given[i];
        }
        boolean isLate = core.cycle() > 0;
        return switch (name) {
            case "add" -> out(x[0], 0, 21) || out(x[1], 0, 7) || out(x[2], 0, 7) || out(x[3], 0, 7)
                    || !out(x[0], 12, 15) && out(x[4], 0, 63) ? ARGUMENT : when(isLate || instructions >= 64, STATE);
            case "setRegister" -> out(x[0], 0, 7) ? ARGUMENT : when(isLate, STATE);
            case "setWord" -> out(x[0], 0, 63) ? ARGUMENT : when(isLate, STATE);
            case "setWidth" -> out(x[0], 1, 4) ? ARGUMENT : when(isLate, STATE);
            case "setBuffer" -> out(x[0], 4, 16) ? ARGUMENT : when(isLate, STATE);
            case "setQueue" -> out(x[0], 2, 8) ? ARGUMENT : when(isLate, STATE);
            case "setInner" -> out(x[0], 10, 24) ? ARGUMENT : when(isLate, STATE);
            case "setHandlers" -> out(x[0], -1, 63) || out(x[1], -1, 63) ? ARGUMENT : when(isLate, STATE);
            case "setTime" -> when(out(x[0], 0, 15) || out(x[1], 1, 30), ARGUMENT);
            case "run" -> out(x[0], 1, 60) || core.cycle() > 500 - x[0] ? ARGUMENT : when(core.hasStopped(), STATE);
            case "kindAt", "placeAt", "kindByPlain", "placeByPlain" -> when(out(x[0], 0, core.ends() - 1), INDEX);
            case "register", "registerByPlain", "inner", "innerAnew" -> when(out(x[0], 0, 7), ARGUMENT);
            case "word", "wordByPlain" -> when(out(x[0], 0, 63), ARGUMENT);
            case "kept" -> when(!isHandling(), ELEMENT);
            case "life" -> out(x[0], 0, core.ends() - 1) ? INDEX
                    : out(x[1], 0, 4) ? ARGUMENT : when(hasNoLife(x[0], x[1]), ELEMENT);
            case "stateOf", "isReady" -> when(out(x[0], 0, inner - 1), INDEX);
            case "freeAt" -> when(out(x[0], 0, core.free() - 1), INDEX);
            case "bufferAt", "stageAt" -> when(out(x[0], 0, core.inBuffer() - 1), INDEX);
            case "returnAt" -> when(out(x[0], 0, core.returns() - 1), INDEX);
            case "counter", "isMarked" -> when(out(x[0], 0, 15), ARGUMENT);
            case "lineAt" -> when(out(x[0], 0, 3), ARGUMENT);
            case "lost" -> when("itfqxmbd".indexOf(x[0]) < 0, ARGUMENT);
            case "share" -> when(!isLate, ELEMENT);
            default -> null;
        };
    }

    private static boolean out(int value, int least, int greatest) {
        return value < least || value > greatest;
    }

    private static Class<?> when(boolean isSo, Class<?> thrown) {
        return isSo ? thrown : null;
    }

    private boolean hasNoLife(int end, int what) {
        int code = codes[core.placeAt(end)];
        boolean wasInQueue = code >= 1 && code <= 13 || code == 16 || code == 17;
        return core.kindAt(end) == 9 || what == 2 && !wasInQueue;
    }

    /** A trap or an interrupt that did not stop the core begins the handling, and a 21 that retires ends it. */
    private boolean isHandling() {
        boolean isHandling = false;
        for (int end = 0; end < core.ends(); end++) {
            boolean isLast = core.hasStopped() && end == core.ends() - 1;
            if (core.kindAt(end) != 0) {
                isHandling |= !isLast;
            } else if (codes[core.placeAt(end)] == 21) {
                isHandling = false;
            }
        }
        return isHandling;
    }
}
