import java.io.IOException;
import java.lang.reflect.InvocationTargetException;
import java.lang.reflect.Method;
import java.nio.file.Files;
import java.nio.file.Path;
import java.util.Arrays;
import java.util.Comparator;
import java.util.Objects;

/** Compares answers with those that are due, prints each that differs, and ends with exit code 1 if one did. */
final class Due {
    private int wrong = 0;
    private int asked = 0;
    private String where = "";

    void same(String what, Object got, Object due) {
        asked++;
        if (!Objects.equals(got, due)) {
            wrong++;
            System.out.println(where + what + " answered " + got + ", due is " + due);
        }
    }

    /** The call must throw just this exception, not one below it, by a throw of the class, not of the library. */
    void raises(String what, Class<? extends RuntimeException> due, Runnable call) {
        Object got = "nothing";
        try {
            call.run();
        } catch (RuntimeException thrown) {
            StackTraceElement[] trace = thrown.getStackTrace();
            boolean isOwn = trace.length > 0 && trace[0].getClassName().startsWith("Reorderium");
            got = isOwn ? thrown.getClass() : "by the library: " + thrown;
        }
        same(what + " threw", got, due);
    }

    /** Runs each static method of the class that tells which words it holds. */
    void runAll(Class<?> tests) {
        Method[] methods = tests.getDeclaredMethods();
        Arrays.sort(methods, Comparator.comparing(Method::getName));
        for (Method method : methods) {
            Holds holds = method.getAnnotation(Holds.class);
            if (holds != null) {
                where = "promise " + holds.promise() + ", '" + holds.words() + "', " + method.getName() + ": ";
                same("the document has these words", hasWords(holds.promise(), holds.words()), true);
                runOne(method);
            }
        }
        where = "";
    }

    private void runOne(Method method) {
        int before = asked;
        try {
            method.setAccessible(true);
            method.invoke(null);
            same("it asks something", asked > before, true);
        } catch (InvocationTargetException | IllegalAccessException failed) {
            same("the test", String.valueOf(failed.getCause()), "goes through");
        }
    }

    /** The words may stand in the section of the promise or in the terms, and be broken there by ends of lines. */
    private static boolean hasWords(int promise, String words) {
        String document = document();
        if (document.isEmpty()) {
            return true;
        }
        int terms = document.indexOf("## Terms");
        int first = document.indexOf("## Promise 1:");
        return terms >= 0 && first > terms
                && (document.substring(terms, first).contains(words) || section(promise).contains(words));
    }

    /** What the document says below the heading of a promise. */
    static String section(int promise) {
        String document = document();
        int from = document.indexOf("## Promise " + promise + ":");
        int to = document.indexOf("## ", from + 3);
        return from >= 0 && to >= 0 ? document.substring(from, to) : "";
    }

    /** Empty if it is not there: the tests hold without it, but what they quote cannot be looked up. */
    private static String document() {
        try {
            String text = Files.readString(Path.of(System.getProperty("document", "../shared/DOC.md")));
            return text.replace("`", "").replaceAll("\\s+", " ");
        } catch (IOException missing) {
            return "";
        }
    }

    void end() {
        System.out.println(wrong == 0 ? asked + " answers are as due" : wrong + " answers are not as due");
        if (wrong != 0) {
            System.exit(1);
        }
    }

    static Reorderium program(int[]... instructions) {
        Reorderium core = new Reorderium();
        for (int[] i : instructions) {
            core.add(i[0], i[1], i[2], i[3], i[4]);
        }
        return core;
    }

    static int[] i(int code, int d, int a, int b, int n) {
        return new int[] {code, d, a, b, n};
    }

    static int[] stop() {
        return i(18, 0, 0, 0, 0);
    }

    static int[] nothing() {
        return i(0, 0, 0, 0, 0);
    }

    /** The places in the buffer, the oldest one first. */
    static String buffer(Reorderium core) {
        StringBuilder text = new StringBuilder();
        for (int i = 0; i < core.inBuffer(); i++) {
            text.append(i == 0 ? "" : " ").append(core.bufferAt(i)).append(core.stageAt(i));
        }
        return text.toString();
    }

    static String freeLine(Reorderium core) {
        StringBuilder text = new StringBuilder();
        for (int i = 0; i < core.free(); i++) {
            text.append(i == 0 ? "" : " ").append(core.freeAt(i));
        }
        return text.toString();
    }

    static String returns(Reorderium core) {
        StringBuilder text = new StringBuilder();
        for (int i = 0; i < core.returns(); i++) {
            text.append(i == 0 ? "" : " ").append(core.returnAt(i));
        }
        return text.toString();
    }

    static String losses(Reorderium core) {
        StringBuilder text = new StringBuilder();
        for (char reason : "itfqxmbd".toCharArray()) {
            text.append(reason).append(core.lost(reason));
        }
        return text.toString();
    }

    /** The ends, each as its kind, an @, and its place. */
    static String ends(Reorderium core) {
        StringBuilder text = new StringBuilder();
        for (int i = 0; i < core.ends(); i++) {
            text.append(i == 0 ? "" : " ").append(core.kindAt(i)).append('@').append(core.placeAt(i));
        }
        return text.toString();
    }

    static String endsByPlain(Reorderium core) {
        StringBuilder text = new StringBuilder();
        for (int i = 0; i < core.ends(); i++) {
            text.append(i == 0 ? "" : " ").append(core.kindByPlain(i)).append('@').append(core.placeByPlain(i));
        }
        return text.toString();
    }

    /** The five cycles of an end, - where there is none. */
    static String life(Reorderium core, int end) {
        StringBuilder text = new StringBuilder();
        for (int what = 0; what < 5; what++) {
            text.append(what == 0 ? "" : " ");
            try {
                text.append(core.life(end, what));
            } catch (java.util.NoSuchElementException none) {
                text.append('-');
            }
        }
        return text.toString();
    }

    static void runOut(Reorderium core) {
        while (!core.hasStopped() && core.cycle() < 500) {
            core.run(Math.min(60, 500 - core.cycle()));
        }
    }
}
