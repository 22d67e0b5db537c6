import java.util.Objects;

/** Compares answers with those that are due, prints each that differs, and ends with exit code 1 if one did. */
final class Due {
    private int wrong = 0;
    private int asked = 0;

    void same(String what, Object got, Object due) {
        asked++;
        if (!Objects.equals(got, due)) {
            wrong++;
            System.out.println(what + " answered " + got + ", due is " + due);
        }
    }

    /** The call must throw just this exception, not one below it. */
    void raises(String what, Class<? extends RuntimeException> due, Runnable call) {
        Object got = "nothing";
        try {
            call.run();
        } catch (RuntimeException thrown) {
            got = thrown.getClass();
        }
        same(what + " threw", got, due);
    }

    void end() {
        System.out.println(wrong == 0 ? asked + " answers are as due" : wrong + " answers are not as due");
        if (wrong != 0) {
            System.exit(1);
        }
    }

    static Reorderium program(int[]... instructions) {
        Reorderium core = new Reorderium();
        for (int[] i : instructions) {
            core.add(i[0], i[1], i[2], i[3], i[4]);
        }
        return core;
    }

    static int[] i(int code, int d, int a, int b, int n) {
        return new int[] {code, d, a, b, n};
    }

    static int[] stop() {
        return i(18, 0, 0, 0, 0);
    }

    static int[] nothing() {
        return i(0, 0, 0, 0, 0);
    }

    /** The places in the buffer, the oldest one first. */
    static String buffer(Reorderium core) {
        StringBuilder text = new StringBuilder();
        for (int i = 0; i < core.inBuffer(); i++) {
            text.append(i == 0 ? "" : " ").append(core.bufferAt(i)).append(core.stageAt(i));
        }
        return text.toString();
    }

    static String freeLine(Reorderium core) {
        StringBuilder text = new StringBuilder();
        for (int i = 0; i < core.free(); i++) {
            text.append(i == 0 ? "" : " ").append(core.freeAt(i));
        }
        return text.toString();
    }

    static String returns(Reorderium core) {
        StringBuilder text = new StringBuilder();
        for (int i = 0; i < core.returns(); i++) {
            text.append(i == 0 ? "" : " ").append(core.returnAt(i));
        }
        return text.toString();
    }

    static String losses(Reorderium core) {
        StringBuilder text = new StringBuilder();
        for (char reason : "itfqxmbd".toCharArray()) {
            text.append(reason).append(core.lost(reason));
        }
        return text.toString();
    }

    /** The ends, each as its kind, an @, and its place. */
    static String ends(Reorderium core) {
        StringBuilder text = new StringBuilder();
        for (int i = 0; i < core.ends(); i++) {
            text.append(i == 0 ? "" : " ").append(core.kindAt(i)).append('@').append(core.placeAt(i));
        }
        return text.toString();
    }

    static String endsByPlain(Reorderium core) {
        StringBuilder text = new StringBuilder();
        for (int i = 0; i < core.ends(); i++) {
            text.append(i == 0 ? "" : " ").append(core.kindByPlain(i)).append('@').append(core.placeByPlain(i));
        }
        return text.toString();
    }

    /** The five cycles of an end, - where there is none. */
    static String life(Reorderium core, int end) {
        StringBuilder text = new StringBuilder();
        for (int what = 0; what < 5; what++) {
            text.append(what == 0 ? "" : " ");
            try {
                text.append(core.life(end, what));
            } catch (java.util.NoSuchElementException none) {
                text.append('-');
            }
        }
        return text.toString();
    }

    static void runOut(Reorderium core) {
        while (!core.hasStopped() && core.cycle() < 500) {
            core.run(Math.min(60, 500 - core.cycle()));
        }
    }
}
