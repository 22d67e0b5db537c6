import java.util.NoSuchElementException;

/** Promises 1 to 13: a new object, what is told, running. */
final class TellingTests {
    private static final Class<IllegalArgumentException> ARGUMENT = IllegalArgumentException.class;
    private static final Class<IllegalStateException> STATE = IllegalStateException.class;
    private static final Class<NoSuchElementException> ELEMENT = NoSuchElementException.class;
    private static final Due due = new Due();

    public static void main(String[] args) {
        aNewObject();
        add();
        setRegister();
        setWord();
        setLimits();
        setInner();
        setHandlers();
        setTime();
        interrupt();
        run();
        due.end();
    }

    private static void aNewObject() {
        Reorderium core = new Reorderium();
        due.same("new: cycle", core.cycle(), 0);
        due.same("new: hasStopped", core.hasStopped(), false);
        due.same("new: ends", core.ends(), 0);
        due.same("new: fetched", core.fetched(), 0);
        due.same("new: fetching", core.fetching(), 0);
        due.same("new: inBuffer", core.inBuffer(), 0);
        due.same("new: inQueue", core.inQueue(), 0);
        due.same("new: returns", core.returns(), 0);
        due.same("new: asked", core.asked(), 0);
        due.same("new: free line", Due.freeLine(core), "8 9 10 11 12 13 14 15");
        for (int r = 0; r < 8; r++) {
            due.same("new: register", core.register(r), 0);
            due.same("new: registerByPlain", core.registerByPlain(r), 0);
            due.same("new: inner", core.inner(r), r);
            due.same("new: innerAnew", core.innerAnew(r), r);
        }
        for (int i = 0; i < 16; i++) {
            due.same("new: stateOf " + i, core.stateOf(i), i < 8 ? 'm' : 'f');
            due.same("new: isReady " + i, core.isReady(i), i < 8);
            due.same("new: counter", core.counter(i), 1);
            due.same("new: isMarked", core.isMarked(i), false);
        }
        for (int i = 0; i < 4; i++) {
            due.same("new: lineAt", core.lineAt(i), -1);
        }
        for (int i = 0; i < 64; i++) {
            due.same("new: word", core.word(i), 0);
            due.same("new: wordByPlain", core.wordByPlain(i), 0);
        }
        due.same("new: losses", Due.losses(core), "i0t0f0q0x0m0b0d0");
        due.same("new: wrong", core.wrong(), 0);
        due.same("new: early", core.early(), 0);
        due.same("new: thrownAway", core.thrownAway(), 0);
        due.same("new: taken", core.taken(), 0);
        due.same("new: hits", core.hits(), 0L);
        due.same("new: isSame", core.isSame(), true);
        due.same("new: isWhole", core.isWhole(), true);
        due.raises("new: kept", ELEMENT, core::kept);
        due.raises("new: share", ELEMENT, core::share);
    }

    private static void add() {
        Reorderium core = new Reorderium();
        for (int code = 0; code <= 21; code++) {
            due.same("add of code " + code, core.add(code, 7, 7, 7, 63), code);
        }
        due.raises("add(-1)", ARGUMENT, () -> core.add(-1, 0, 0, 0, 0));
        due.raises("add(22)", ARGUMENT, () -> core.add(22, 0, 0, 0, 0));
        for (int bad : new int[] {-1, 8, Integer.MIN_VALUE, Integer.MAX_VALUE}) {
            due.raises("add of a bad d", ARGUMENT, () -> core.add(0, bad, 0, 0, 0));
            due.raises("add of a bad a", ARGUMENT, () -> core.add(0, 0, bad, 0, 0));
            due.raises("add of a bad b", ARGUMENT, () -> core.add(18, 0, 0, bad, 0));
        }
        int places = 22;
        for (int code = 0; code <= 21; code++) {
            int c = code;
            if (code >= 12 && code <= 15) {
                due.raises("add of the place -1", ARGUMENT, () -> core.add(c, 0, 0, 0, -1));
                due.raises("add of the place 64", ARGUMENT, () -> core.add(c, 0, 0, 0, 64));
                due.same("add of the place 0", core.add(code, 0, 0, 0, 0), places);
            } else {
                due.same("add of n -1", core.add(code, 0, 0, 0, code % 2 == 0 ? -1 : 64), places);
            }
            places++;
        }
        for (; places < 64; places++) {
            due.same("add of one more", core.add(0, 0, 0, 0, 0), places);
        }
        due.raises("the 65th add", STATE, () -> core.add(0, 0, 0, 0, 0));
        due.raises("the 65th add, wrong too", ARGUMENT, () -> core.add(22, 0, 0, 0, 0));
        Reorderium late = new Reorderium();
        late.run(1);
        due.raises("add behind a cycle", STATE, () -> late.add(0, 0, 0, 0, 0));
        due.raises("add behind a cycle, wrong too", ARGUMENT, () -> late.add(0, 0, 8, 0, 0));
        late.run(2);
        due.same("nothing was added", late.fetched(), 0);
    }

    private static void setRegister() {
        Reorderium core = Due.program(Due.i(2, 1, 0, 7, 0), Due.stop());
        due.same("setRegister", core.setRegister(0, 5), 0);
        due.same("setRegister again", core.setRegister(0, Integer.MIN_VALUE), 5);
        due.same("setRegister of the last", core.setRegister(7, 3), 0);
        due.raises("setRegister(-1)", ARGUMENT, () -> core.setRegister(-1, 0));
        due.raises("setRegister(8)", ARGUMENT, () -> core.setRegister(8, 0));
        due.same("register", core.register(0), Integer.MIN_VALUE);
        due.same("registerByPlain", core.registerByPlain(0), Integer.MIN_VALUE);
        Due.runOut(core);
        due.same("a sum of what was set", core.register(1), Integer.MIN_VALUE + 3);
        due.raises("setRegister behind a cycle", STATE, () -> core.setRegister(0, 1));
        due.raises("setRegister behind a cycle, wrong too", ARGUMENT, () -> core.setRegister(8, 1));
        due.same("register stays", core.register(0), Integer.MIN_VALUE);
    }

    private static void setWord() {
        Reorderium core = Due.program(Due.i(9, 1, 0, 0, 63), Due.stop());
        due.same("setWord", core.setWord(63, 5), 0);
        due.same("setWord again", core.setWord(63, -9), 5);
        due.same("setWord of the first", core.setWord(0, 3), 0);
        due.raises("setWord(-1)", ARGUMENT, () -> core.setWord(-1, 0));
        due.raises("setWord(64)", ARGUMENT, () -> core.setWord(64, 0));
        due.same("word", core.word(63), -9);
        due.same("wordByPlain", core.wordByPlain(63), -9);
        Due.runOut(core);
        due.same("what was set is read", core.register(1), -9);
        due.same("what was set is read by the plain machine", core.registerByPlain(1), -9);
        due.raises("setWord behind a cycle", STATE, () -> core.setWord(0, 1));
        due.raises("setWord behind a cycle, wrong too", ARGUMENT, () -> core.setWord(64, 1));
        due.same("word stays", core.word(0), 3);
    }

    private static void setLimits() {
        Reorderium core = new Reorderium();
        due.same("setWidth", core.setWidth(1), 2);
        due.same("setWidth again", core.setWidth(4), 1);
        due.same("setBuffer", core.setBuffer(4), 8);
        due.same("setBuffer again", core.setBuffer(16), 4);
        due.same("setQueue", core.setQueue(2), 4);
        due.same("setQueue again", core.setQueue(8), 2);
        for (int bad : new int[] {0, -1, 5, Integer.MAX_VALUE}) {
            due.raises("setWidth of " + bad, ARGUMENT, () -> core.setWidth(bad));
        }
        for (int bad : new int[] {3, 17, -4, Integer.MIN_VALUE}) {
            due.raises("setBuffer of " + bad, ARGUMENT, () -> core.setBuffer(bad));
        }
        for (int bad : new int[] {1, 9, -2, 0}) {
            due.raises("setQueue of " + bad, ARGUMENT, () -> core.setQueue(bad));
        }
        core.run(1);
        due.raises("setWidth behind a cycle", STATE, () -> core.setWidth(2));
        due.raises("setBuffer behind a cycle", STATE, () -> core.setBuffer(8));
        due.raises("setQueue behind a cycle", STATE, () -> core.setQueue(4));
        due.raises("setWidth behind a cycle, wrong too", ARGUMENT, () -> core.setWidth(5));
        due.raises("setBuffer behind a cycle, wrong too", ARGUMENT, () -> core.setBuffer(17));
        due.raises("setQueue behind a cycle, wrong too", ARGUMENT, () -> core.setQueue(9));
    }

    private static void setInner() {
        Reorderium core = new Reorderium();
        due.same("setInner", core.setInner(24), 16);
        due.same("free with 24", core.free(), 16);
        due.same("the last one with 24", core.freeAt(15), 23);
        due.same("setInner again", core.setInner(10), 24);
        due.same("free line with 10", Due.freeLine(core), "8 9");
        due.raises("stateOf behind the last", IndexOutOfBoundsException.class, () -> core.stateOf(10));
        due.raises("setInner(9)", ARGUMENT, () -> core.setInner(9));
        due.raises("setInner(25)", ARGUMENT, () -> core.setInner(25));
        due.same("isWhole with 10", core.isWhole(), true);
        core.run(1);
        due.raises("setInner behind a cycle", STATE, () -> core.setInner(12));
        due.raises("setInner behind a cycle, wrong too", ARGUMENT, () -> core.setInner(25));
        due.same("free stays", core.free(), 2);
    }

    private static void setHandlers() {
        Reorderium core = new Reorderium();
        due.same("setHandlers", core.setHandlers(3, 63), -65);
        due.same("setHandlers again", core.setHandlers(63, -1), 3 * 64 + 63);
        due.same("setHandlers once more", core.setHandlers(0, 0), 63 * 64 - 1);
        due.raises("setHandlers(-2, 0)", ARGUMENT, () -> core.setHandlers(-2, 0));
        due.raises("setHandlers(64, 0)", ARGUMENT, () -> core.setHandlers(64, 0));
        due.raises("setHandlers(0, -2)", ARGUMENT, () -> core.setHandlers(0, -2));
        due.raises("setHandlers(0, 64)", ARGUMENT, () -> core.setHandlers(0, 64));
        due.same("setHandlers, nothing was changed", core.setHandlers(-1, -1), 0);
        core.run(1);
        due.raises("setHandlers behind a cycle", STATE, () -> core.setHandlers(0, 0));
        due.raises("setHandlers behind a cycle, wrong too", ARGUMENT, () -> core.setHandlers(64, 0));
    }

    private static void setTime() {
        Reorderium core = Due.program(Due.i(9, 1, 0, 0, 4), Due.i(9, 2, 0, 0, 8), Due.stop());
        due.same("setTime", core.setTime(1, 30), 6);
        due.same("setTime again", core.setTime(1, 5), 30);
        due.same("setTime of the first", core.setTime(0, 1), 6);
        due.same("setTime of the last", core.setTime(15, 1), 6);
        due.raises("setTime(-1, 1)", ARGUMENT, () -> core.setTime(-1, 1));
        due.raises("setTime(16, 1)", ARGUMENT, () -> core.setTime(16, 1));
        due.raises("setTime(0, 0)", ARGUMENT, () -> core.setTime(0, 0));
        due.raises("setTime(0, 31)", ARGUMENT, () -> core.setTime(0, 31));
        core.run(3);
        due.same("asked in the cycle 3", core.asked(), 1);
        due.same("setTime of a line that is asked for", core.setTime(1, 20), 5);
        due.same("setTime of the next line", core.setTime(2, 2), 6);
        core.run(2);
        due.same("the line is not there yet", core.lineAt(1), -1);
        core.run(1);
        due.same("the line 2, asked for in the cycle 4, is there", core.lineAt(2), 2);
        core.run(2);
        due.same("the line 1 has come in the cycle 8", core.lineAt(1), 1);
        due.same("life of the first", Due.life(core, 0), "1 2 3 8 8");
        Due.runOut(core);
        due.same("life of the second", Due.life(core, 1), "1 2 4 6 8");
        due.same("setTime of a stopped core", core.setTime(1, 6), 20);
    }

    private static void interrupt() {
        Reorderium core = Due.program(Due.nothing(), Due.stop(), Due.i(21, 0, 0, 0, 0));
        due.same("interrupt", core.interrupt(), false);
        due.same("interrupt again", core.interrupt(), true);
        Due.runOut(core);
        due.same("without a handler none is taken", Due.ends(core), "0@0 0@1");
        due.same("it stays asked for", core.interrupt(), true);
        Reorderium other = Due.program(Due.nothing(), Due.stop(), Due.i(21, 0, 0, 0, 0));
        other.setHandlers(-1, 2);
        other.interrupt();
        other.run(1);
        due.same("with a handler it is taken", Due.ends(other), "9@0");
        due.same("it is not asked for any more", other.interrupt(), false);
        due.same("but now it is", other.interrupt(), true);
        other.run(1);
        due.same("none is taken while one is handled", other.ends(), 1);
        other.run(2);
        due.same("the 21 retires, then the next one is taken", Due.ends(other), "9@0 0@2 9@0");
        Due.runOut(other);
        due.same("then it goes on", Due.ends(other), "9@0 0@2 9@0 0@2 0@0 0@1");
        due.same("the plain machine, too", Due.endsByPlain(other), "9@0 0@2 9@0 0@2 0@0 0@1");
    }

    private static void run() {
        Reorderium core = Due.program(Due.i(14, 0, 0, 0, 0));
        for (int bad : new int[] {0, -1, 61, Integer.MAX_VALUE, Integer.MIN_VALUE}) {
            due.raises("run of " + bad, ARGUMENT, () -> core.run(bad));
        }
        due.same("run of 1", core.run(1), 0);
        due.same("cycle", core.cycle(), 1);
        due.same("run of 60", core.run(60), 59);
        due.same("cycle", core.cycle(), 61);
        for (int i = 0; i < 7; i++) {
            core.run(60);
        }
        due.same("cycle", core.cycle(), 481);
        due.raises("run beyond 500", ARGUMENT, () -> core.run(20));
        due.same("cycle stays", core.cycle(), 481);
        due.same("run up to 500", core.run(19), 19);
        due.same("ends", core.ends(), 498);
        due.raises("run at 500", ARGUMENT, () -> core.run(1));
        Reorderium stops = Due.program(Due.stop());
        due.same("run until it stops", stops.run(60), 1);
        due.same("the cycle in which it stopped", stops.cycle(), 3);
        due.same("hasStopped", stops.hasStopped(), true);
        due.raises("run of a stopped core", STATE, () -> stops.run(1));
        due.raises("run of a stopped core, wrong too", ARGUMENT, () -> stops.run(61));
        due.same("the cycle stays", stops.cycle(), 3);
        Reorderium wide = Due.program(Due.nothing(), Due.nothing(), Due.nothing(), Due.nothing(), Due.stop());
        wide.setWidth(4);
        due.same("hasStopped ahead", wide.hasStopped(), false);
        due.same("none ends", wide.run(2), 0);
        due.same("four end", wide.run(1), 4);
        due.same("one ends", wide.run(9), 1);
    }
}
