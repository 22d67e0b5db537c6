/** The edges of promises 1 to 12 and of what is told: each test holds the words that stand above it. */
final class TellingBoundaryTests {
    private static final Class<IllegalArgumentException> ARGUMENT = IllegalArgumentException.class;
    private static final Class<IllegalStateException> STATE = IllegalStateException.class;
    private static final int MIN = Integer.MIN_VALUE;
    private static final int MAX = Integer.MAX_VALUE;
    private static final Due due = new Due();

    public static void main(String[] args) {
        due.runAll(TellingBoundaryTests.class);
        due.end();
    }

    private static Reorderium behindOneCycle() {
        Reorderium core = Due.program(Due.nothing(), Due.stop());
        core.run(1);
        return core;
    }

    @Holds(promise = 1, words = "Creates a core without instructions, in the cycle 0.")
    static void newIsEmpty() {
        Reorderium core = new Reorderium();
        due.same("cycle", core.cycle(), 0);
        due.same("the first place", core.add(0, 0, 0, 0, 0), 0);
        Reorderium other = new Reorderium();
        due.same("what one object is told, another one does not have", other.add(0, 0, 0, 0, 0), 0);
        Reorderium none = new Reorderium();
        none.run(5);
        due.same("without instructions nothing is fetched", none.fetched() + none.inBuffer() + none.ends(), 0);
        due.same("the cycle goes on", none.cycle(), 5);
    }

    @Holds(promise = 2, words = "At most 64 instructions have the places 0 to n - 1")
    static void placesOfInstructions() {
        Reorderium core = new Reorderium();
        for (int place = 0; place < 64; place++) {
            due.same("add", core.add(14, 0, 0, 0, (place + 1) % 64), place);
        }
        due.raises("the 65th", STATE, () -> core.add(0, 0, 0, 0, 0));
        core.setWidth(1);
        core.run(60);
        core.run(9);
        due.same("the one at 63 goes to 0", core.placeAt(63) + " " + core.placeAt(64), "63 0");
    }

    @Holds(promise = 2, words = "Returns its place.")
    static void placeBehindRefused() {
        Reorderium core = new Reorderium();
        due.raises("add(22)", ARGUMENT, () -> core.add(22, 0, 0, 0, 0));
        due.same("the first one", core.add(0, 0, 0, 0, 0), 0);
        due.raises("add(14) to 64", ARGUMENT, () -> core.add(14, 0, 0, 0, 64));
        due.same("the second one", core.add(0, 0, 0, 0, 0), 1);
    }

    @Holds(promise = 2, words = "if the code is not from 0 to 21")
    static void codes() {
        Reorderium core = new Reorderium();
        for (int bad : new int[] {-1, 22, MIN, MAX}) {
            due.raises("add(" + bad + ")", ARGUMENT, () -> core.add(bad, 0, 0, 0, 0));
        }
        due.same("the least code", core.add(0, 0, 0, 0, 0), 0);
        due.same("the greatest code", core.add(21, 0, 0, 0, 0), 1);
    }

    @Holds(promise = 2, words = "a register is not there")
    static void registersOfInstructions() {
        Reorderium core = new Reorderium();
        for (int code = 0; code <= 21; code++) {
            int c = code;
            for (int bad : new int[] {-1, 8, MIN, MAX}) {
                due.raises("d " + bad + " of " + code, ARGUMENT, () -> core.add(c, bad, 0, 0, 0));
                due.raises("a " + bad + " of " + code, ARGUMENT, () -> core.add(c, 0, bad, 0, 0));
                due.raises("b " + bad + " of " + code, ARGUMENT, () -> core.add(c, 0, 0, bad, 0));
            }
            due.same("0 of " + code, core.add(code, 0, 0, 0, 0), 2 * code);
            due.same("7 of " + code, core.add(code, 7, 7, 7, 0), 2 * code + 1);
        }
    }

    @Holds(promise = 2, words = "or n is not from 0 to 63 for a code from 12 to 15")
    static void numbersOfJumps() {
        Reorderium core = new Reorderium();
        int place = 0;
        for (int code = 12; code <= 15; code++) {
            int c = code;
            for (int bad : new int[] {-1, 64, MIN, MAX}) {
                due.raises("n " + bad + " of " + code, ARGUMENT, () -> core.add(c, 0, 0, 0, bad));
            }
            due.same("n 0 of " + code, core.add(code, 0, 0, 0, 0), place);
            due.same("n 63 of " + code, core.add(code, 0, 0, 0, 63), place + 1);
            place += 2;
        }
        for (int code : new int[] {0, 1, 9, 10, 11, 16, 17, 18, 21}) {
            for (int any : new int[] {-1, 64, MIN, MAX}) {
                due.same("n " + any + " of " + code, core.add(code, 0, 0, 0, any), place);
                place++;
            }
        }
    }

    @Holds(promise = 2, words = "if a cycle has passed, or there are 64 instructions")
    static void addTooLateOrTooMuch() {
        Reorderium core = new Reorderium();
        for (int i = 0; i < 63; i++) {
            core.add(0, 0, 0, 0, 0);
        }
        due.same("the 64th", core.add(18, 0, 0, 0, 0), 63);
        due.raises("the 65th", STATE, () -> core.add(18, 0, 0, 0, 0));
        Reorderium late = behindOneCycle();
        due.raises("behind a cycle", STATE, () -> late.add(0, 0, 0, 0, 0));
        Due.runOut(late);
        due.raises("when it has stopped", STATE, () -> late.add(0, 0, 0, 0, 0));
        due.same("none was added", Due.ends(late), "0@0 0@1");
    }

    @Holds(promise = 2, words = "If several exceptions apply, the one that is listed first is thrown.")
    static void addWrongTwice() {
        Reorderium full = new Reorderium();
        for (int i = 0; i < 64; i++) {
            full.add(0, 0, 0, 0, 0);
        }
        due.raises("a wrong code for a full program", ARGUMENT, () -> full.add(-1, 0, 0, 0, 0));
        due.raises("a wrong register for a full program", ARGUMENT, () -> full.add(0, 0, 0, 8, 0));
        due.raises("a wrong number for a full program", ARGUMENT, () -> full.add(12, 0, 0, 0, 64));
        Reorderium late = behindOneCycle();
        due.raises("a wrong code behind a cycle", ARGUMENT, () -> late.add(22, 0, 0, 0, 0));
    }

    @Holds(promise = 3, words = "Throws IllegalArgumentException if there is no such register")
    static void setNoRegister() {
        Reorderium core = new Reorderium();
        for (int bad : new int[] {-1, 8, MIN, MAX}) {
            due.raises("setRegister(" + bad + ")", ARGUMENT, () -> core.setRegister(bad, 1));
        }
        due.same("the first one", core.setRegister(0, MIN), 0);
        due.same("the last one", core.setRegister(7, MAX), 0);
        due.same("both", core.register(0) + " " + core.register(7), MIN + " " + MAX);
        due.same("both by the plain machine", core.registerByPlain(0) + " " + core.registerByPlain(7), MIN + " " + MAX);
    }

    @Holds(promise = 3, words = "Returns the value before.")
    static void registerBefore() {
        Reorderium core = new Reorderium();
        due.same("at first", core.setRegister(3, -1), 0);
        due.same("then", core.setRegister(3, 0), -1);
        due.same("another one", core.setRegister(4, 0), 0);
        due.same("back", core.setRegister(3, 7), 0);
    }

    @Holds(promise = 3, words = "Throws IllegalStateException if a cycle has passed")
    static void setRegisterLate() {
        Reorderium core = behindOneCycle();
        due.raises("behind a cycle", STATE, () -> core.setRegister(0, 1));
        due.raises("and a wrong register", ARGUMENT, () -> core.setRegister(8, 1));
        due.same("it stays", core.register(0) + core.registerByPlain(0), 0);
    }

    @Holds(promise = 4, words = "Throws IllegalArgumentException if there is no such address")
    static void setNoWord() {
        Reorderium core = new Reorderium();
        for (int bad : new int[] {-1, 64, MIN, MAX}) {
            due.raises("setWord(" + bad + ")", ARGUMENT, () -> core.setWord(bad, 1));
        }
        due.same("the first one", core.setWord(0, MIN), 0);
        due.same("the last one", core.setWord(63, MAX), 0);
        due.same("both", core.word(0) + " " + core.word(63), MIN + " " + MAX);
        due.same("both by the plain machine", core.wordByPlain(0) + " " + core.wordByPlain(63), MIN + " " + MAX);
    }

    @Holds(promise = 4, words = "Returns the value before.")
    static void wordBefore() {
        Reorderium core = new Reorderium();
        due.same("at first", core.setWord(63, -1), 0);
        due.same("then", core.setWord(63, 0), -1);
        due.same("another one", core.setWord(62, 5), 0);
        due.same("back", core.setWord(63, 7), 0);
    }

    @Holds(promise = 4, words = "Throws IllegalStateException if a cycle has passed")
    static void setWordLate() {
        Reorderium core = behindOneCycle();
        due.raises("behind a cycle", STATE, () -> core.setWord(0, 1));
        due.raises("and a wrong address", ARGUMENT, () -> core.setWord(64, 1));
        due.same("it stays", core.word(0) + core.wordByPlain(0), 0);
    }

    @Holds(promise = 5, words = "Throws IllegalArgumentException if it is not from 1 to 4")
    static void widths() {
        Reorderium core = new Reorderium();
        for (int bad : new int[] {0, 5, -1, MIN, MAX}) {
            due.raises("setWidth(" + bad + ")", ARGUMENT, () -> core.setWidth(bad));
        }
        due.same("the least", core.setWidth(1), 2);
        due.same("the greatest", core.setWidth(4), 1);
        due.same("it was 4", core.setWidth(2), 4);
    }

    @Holds(promise = 5, words = "The core has a width from 1 to 4, 2 at first")
    static void widthAtFirst() {
        Reorderium core = Due.program(Due.nothing(), Due.nothing(), Due.nothing(), Due.nothing(), Due.nothing());
        core.run(1);
        due.same("fetched", core.fetched(), 2);
        due.same("setWidth of a new one", new Reorderium().setWidth(2), 2);
    }

    @Holds(promise = 5, words = "Throws IllegalStateException if a cycle has passed")
    static void setWidthLate() {
        Reorderium core = behindOneCycle();
        due.raises("behind a cycle", STATE, () -> core.setWidth(1));
        due.raises("too small, too", ARGUMENT, () -> core.setWidth(0));
        due.raises("too large, too", ARGUMENT, () -> core.setWidth(5));
    }

    @Holds(promise = 6, words = "Throws IllegalArgumentException if it is not from 4 to 16")
    static void buffers() {
        Reorderium core = new Reorderium();
        for (int bad : new int[] {3, 17, 0, -1, MIN, MAX}) {
            due.raises("setBuffer(" + bad + ")", ARGUMENT, () -> core.setBuffer(bad));
        }
        due.same("the least", core.setBuffer(4), 8);
        due.same("the greatest", core.setBuffer(16), 4);
        due.same("it was 16", core.setBuffer(8), 16);
    }

    @Holds(promise = 6, words = "a buffer of at most 4 to 16 instructions, 8 at first")
    static void bufferAtFirst() {
        due.same("setBuffer of a new one", new Reorderium().setBuffer(8), 8);
        for (int most : new int[] {0, 4, 5, 16}) {
            Reorderium core = new Reorderium();
            core.add(5, 1, 2, 2, 0);
            for (int i = 0; i < 30; i++) {
                core.add(0, 0, 0, 0, 0);
            }
            core.setRegister(2, 1);
            core.setWidth(4);
            if (most > 0) {
                core.setBuffer(most);
            }
            core.run(8);
            due.same("full with " + most, core.inBuffer(), most > 0 ? most : 8);
            due.same("the others wait with " + most, core.fetched(), 8);
        }
    }

    @Holds(promise = 6, words = "Throws IllegalStateException if a cycle has passed")
    static void setBufferLate() {
        Reorderium core = behindOneCycle();
        due.raises("behind a cycle", STATE, () -> core.setBuffer(4));
        due.raises("too small, too", ARGUMENT, () -> core.setBuffer(3));
        due.raises("too large, too", ARGUMENT, () -> core.setBuffer(17));
    }

    @Holds(promise = 7, words = "Throws IllegalArgumentException if it is not from 2 to 8")
    static void queues() {
        Reorderium core = new Reorderium();
        for (int bad : new int[] {1, 9, 0, -1, MIN, MAX}) {
            due.raises("setQueue(" + bad + ")", ARGUMENT, () -> core.setQueue(bad));
        }
        due.same("the least", core.setQueue(2), 4);
        due.same("the greatest", core.setQueue(8), 2);
        due.same("it was 8", core.setQueue(4), 8);
    }

    @Holds(promise = 7, words = "a queue of at most 2 to 8, 4 at first")
    static void queueAtFirst() {
        due.same("setQueue of a new one", new Reorderium().setQueue(4), 4);
        for (int most : new int[] {0, 2, 3, 8}) {
            Reorderium core = new Reorderium();
            core.add(5, 1, 2, 2, 0);
            for (int i = 0; i < 20; i++) {
                core.add(13, 0, 1, 1, 40);
            }
            core.setRegister(2, 1);
            core.setWidth(4);
            core.setBuffer(16);
            if (most > 0) {
                core.setQueue(most);
            }
            core.run(8);
            due.same("full with " + most, core.inQueue(), most > 0 ? most : 4);
            due.same("buffer with " + most, core.inBuffer(), 1 + (most > 0 ? most : 4));
        }
    }

    @Holds(promise = 7, words = "Throws IllegalStateException if a cycle has passed")
    static void setQueueLate() {
        Reorderium core = behindOneCycle();
        due.raises("behind a cycle", STATE, () -> core.setQueue(2));
        due.raises("too small, too", ARGUMENT, () -> core.setQueue(1));
        due.raises("too large, too", ARGUMENT, () -> core.setQueue(9));
    }

    @Holds(promise = 8, words = "Throws IllegalArgumentException if it is not from 10 to 24")
    static void manyInner() {
        Reorderium core = new Reorderium();
        for (int bad : new int[] {9, 25, 0, -1, MIN, MAX}) {
            due.raises("setInner(" + bad + ")", ARGUMENT, () -> core.setInner(bad));
        }
        due.same("none was changed", core.free(), 8);
        due.same("the least", core.setInner(10), 16);
        due.same("the greatest", core.setInner(24), 10);
        due.same("it was 24", core.setInner(16), 24);
    }

    @Holds(promise = 8, words = "inner registers with the numbers 0 to m - 1, m from 10 to 24, 16 at first")
    static void numbersOfInner() {
        for (int many : new int[] {0, 10, 11, 24}) {
            Reorderium core = new Reorderium();
            if (many > 0) {
                core.setInner(many);
            }
            int last = (many > 0 ? many : 16) - 1;
            due.same("the last one of " + many, core.stateOf(last), 'f');
            due.same("the last one of " + many + " is not ready", core.isReady(last), false);
            due.raises("one more than " + many, IndexOutOfBoundsException.class, () -> core.stateOf(last + 1));
            due.raises("isReady of it", IndexOutOfBoundsException.class, () -> core.isReady(last + 1));
        }
    }

    @Holds(promise = 8, words = "the other inner ones are free, in a line by rising numbers")
    static void freeAtFirst() {
        Reorderium core = new Reorderium();
        due.same("16", Due.freeLine(core), "8 9 10 11 12 13 14 15");
        core.setInner(24);
        due.same("24", Due.freeLine(core), "8 9 10 11 12 13 14 15 16 17 18 19 20 21 22 23");
        core.setInner(10);
        due.same("10, when it was 24", Due.freeLine(core), "8 9");
        core.setInner(11);
        due.same("11, when it was 10", Due.freeLine(core), "8 9 10");
        due.same("isWhole", core.isWhole(), true);
    }

    @Holds(promise = 8, words = "Throws IllegalStateException if a cycle has passed")
    static void setInnerLate() {
        Reorderium core = behindOneCycle();
        due.raises("behind a cycle", STATE, () -> core.setInner(10));
        due.raises("too small, too", ARGUMENT, () -> core.setInner(9));
        due.raises("too large, too", ARGUMENT, () -> core.setInner(25));
        due.same("they stay", core.free(), 8);
    }

    @Holds(promise = 9, words = "Throws IllegalArgumentException if a handler is not from -1 to 63")
    static void handlers() {
        Reorderium core = new Reorderium();
        for (int bad : new int[] {-2, 64, MIN, MAX}) {
            due.raises("traps at " + bad, ARGUMENT, () -> core.setHandlers(bad, 0));
            due.raises("interrupts at " + bad, ARGUMENT, () -> core.setHandlers(0, bad));
        }
        due.same("the greatest", core.setHandlers(63, 63), -65);
        due.same("the least", core.setHandlers(-1, -1), 63 * 64 + 63);
        due.same("0", core.setHandlers(0, 0), -65);
        due.same("they were 0", core.setHandlers(1, -1), 0);
    }

    @Holds(promise = 9, words = "Returns 64 times the handler of traps before, plus the handler of interrupts before.")
    static void handlersBefore() {
        Reorderium core = new Reorderium();
        core.setHandlers(-1, 63);
        due.same("none and 63", core.setHandlers(63, -1), -1);
        due.same("63 and none", core.setHandlers(1, 0), 4031);
        due.same("1 and 0", core.setHandlers(0, 1), 64);
        due.same("0 and 1", core.setHandlers(0, 1), 1);
    }

    @Holds(promise = 9, words = "Sets the handlers, none of which are there at first.")
    static void noHandlersAtFirst() {
        Reorderium trap = Due.program(Due.i(20, 0, 0, 0, 0), Due.stop());
        trap.run(60);
        due.same("a trap stops", Due.ends(trap) + " " + trap.hasStopped(), "4@0 true");
        Reorderium asked = Due.program(Due.nothing(), Due.stop());
        asked.interrupt();
        asked.run(60);
        due.same("no interrupt is taken", Due.ends(asked), "0@0 0@1");
    }

    @Holds(promise = 9, words = "the handler of traps, or -1 for none")
    static void takesHandlersAway() {
        Reorderium core = Due.program(Due.i(20, 0, 0, 0, 0), Due.stop());
        core.setHandlers(1, 1);
        core.setHandlers(-1, 1);
        core.run(60);
        due.same("the trap stops", Due.ends(core), "4@0");
        Reorderium zero = Due.program(Due.i(20, 0, 0, 0, 0), Due.stop());
        zero.setHandlers(0, -1);
        zero.run(60);
        due.same("0 is a handler: it is handled once", Due.ends(zero), "4@0 4@0");
    }

    @Holds(promise = 9, words = "the handler of interrupts, or -1 for none")
    static void takesInterruptsAway() {
        Reorderium core = Due.program(Due.nothing(), Due.stop());
        core.setHandlers(0, 0);
        core.setHandlers(0, -1);
        core.interrupt();
        core.run(60);
        due.same("none is taken", Due.ends(core), "0@0 0@1");
        Reorderium zero = Due.program(Due.stop());
        zero.setHandlers(-1, 0);
        zero.interrupt();
        zero.run(60);
        due.same("0 is a handler", Due.ends(zero), "9@0 0@0");
    }

    @Holds(promise = 9, words = "Throws IllegalStateException if a cycle has passed")
    static void setHandlersLate() {
        Reorderium core = behindOneCycle();
        due.raises("behind a cycle", STATE, () -> core.setHandlers(0, 0));
        due.raises("too small, too", ARGUMENT, () -> core.setHandlers(-2, 0));
        due.raises("too large, too", ARGUMENT, () -> core.setHandlers(0, 64));
        core.interrupt();
        core.run(1);
        due.same("none is there", core.ends(), 0);
    }

    @Holds(promise = 10, words = "if there is no such line, or the time is not from 1 to 30")
    static void timesOfLines() {
        Reorderium core = new Reorderium();
        for (int bad : new int[] {-1, 16, MIN, MAX}) {
            due.raises("the line " + bad, ARGUMENT, () -> core.setTime(bad, 6));
        }
        for (int bad : new int[] {0, 31, -1, MIN, MAX}) {
            due.raises("the time " + bad, ARGUMENT, () -> core.setTime(0, bad));
        }
        for (int line = 0; line < 16; line++) {
            due.same("at first", core.setTime(line, 1), 6);
            due.same("the least", core.setTime(line, 30), 1);
            due.same("the greatest", core.setTime(line, 6), 30);
        }
    }

    @Holds(promise = 10, words = "Sets the time of a line, for when it is asked for.")
    static void timeOfAskedLine() {
        Reorderium core = Due.program(Due.i(9, 0, 0, 0, 63), Due.stop());
        core.run(3);
        due.same("it is asked for", core.asked(), 1);
        due.same("setTime", core.setTime(15, 1), 6);
        core.run(5);
        due.same("it does not come earlier", core.asked(), 1);
        core.run(1);
        due.same("it comes by the old time", core.lineAt(3), 15);
    }

    @Holds(promise = 10, words = "what is told at any time")
    static void setTimeAtAnyTime() {
        Reorderium core = behindOneCycle();
        due.same("behind a cycle", core.setTime(0, 2), 6);
        Due.runOut(core);
        due.same("when it has stopped", core.setTime(0, 3), 2);
        due.raises("wrong when it has stopped", ARGUMENT, () -> core.setTime(16, 3));
    }

    @Holds(promise = 11, words = "Returns whether one was asked for already.")
    static void askedAlready() {
        Reorderium core = Due.program(Due.stop());
        due.same("at first", core.interrupt(), false);
        due.same("again", core.interrupt(), true);
        core.setHandlers(-1, 0);
        core.run(1);
        due.same("both are one interrupt, which is taken", Due.ends(core), "9@0");
        due.same("behind it", core.interrupt(), false);
        Due.runOut(core);
        due.same("when it has stopped", core.hasStopped() + " " + core.interrupt(), "true true");
    }

    @Holds(promise = 12, words = "Throws IllegalArgumentException if it is not from 1 to 60")
    static void runsOfCycles() {
        Reorderium core = new Reorderium();
        for (int bad : new int[] {0, 61, -1, MIN, MAX}) {
            due.raises("run(" + bad + ")", ARGUMENT, () -> core.run(bad));
        }
        due.same("none has come", core.cycle(), 0);
        core.run(1);
        due.same("the least", core.cycle(), 1);
        core.run(60);
        due.same("the greatest", core.cycle(), 61);
    }

    @Holds(promise = 12, words = "or the number of the cycle would be greater than 500")
    static void lastCycle() {
        Reorderium core = new Reorderium();
        for (int i = 0; i < 8; i++) {
            core.run(60);
        }
        due.raises("480 and 21", ARGUMENT, () -> core.run(21));
        core.run(19);
        due.raises("499 and 2", ARGUMENT, () -> core.run(2));
        core.run(1);
        due.same("500", core.cycle(), 500);
        due.raises("500 and 1", ARGUMENT, () -> core.run(1));
        due.same("not stopped", core.hasStopped(), false);
    }

    @Holds(promise = 12, words = "Lets cycles come, until the core has stopped.")
    static void runUntilStopped() {
        Reorderium core = Due.program(Due.stop());
        due.same("ends", core.run(60), 1);
        due.same("cycle", core.cycle(), 3);
        Reorderium just = Due.program(Due.stop());
        just.run(2);
        due.same("not yet", just.hasStopped(), false);
        due.same("just the last one", just.run(1), 1);
        due.same("now", just.hasStopped(), true);
    }

    @Holds(promise = 12, words = "Returns the number of ends that come in them.")
    static void endsOfRun() {
        Reorderium core = Due.program(Due.i(20, 0, 0, 0, 0), Due.nothing(), Due.stop());
        core.setHandlers(1, 1);
        due.same("none", core.run(2), 0);
        due.same("a trap", core.run(1), 1);
        Reorderium asked = Due.program(Due.nothing(), Due.nothing(), Due.stop());
        asked.setHandlers(1, 1);
        asked.interrupt();
        due.same("an interrupt", asked.run(1), 1);
        due.same("not those of earlier runs", asked.run(1), 0);
        due.same("two in a cycle", asked.run(1), 2);
    }

    @Holds(promise = 12, words = "Throws IllegalStateException if the core has stopped")
    static void runOfStopped() {
        Reorderium core = Due.program(Due.stop());
        core.run(60);
        due.raises("run(1)", STATE, () -> core.run(1));
        due.raises("run(60)", STATE, () -> core.run(60));
        due.raises("run(0)", ARGUMENT, () -> core.run(0));
        due.raises("run(61)", ARGUMENT, () -> core.run(61));
        Reorderium trap = Due.program(Due.i(20, 0, 0, 0, 0));
        trap.run(60);
        due.raises("stopped by a trap", STATE, () -> trap.run(1));
        Reorderium late = Due.program(Due.i(5, 1, 2, 2, 0), Due.i(12, 0, 1, 3, 4), Due.i(14, 0, 0, 0, 0), Due.nothing(),
                Due.stop());
        late.setRegister(2, 1);
        late.setHandlers(-1, 4);
        for (int i = 0; i < 8; i++) {
            late.run(60);
        }
        late.interrupt();
        late.run(4);
        due.same("stopped in the cycle 483", late.hasStopped() + " " + late.cycle(), "true 483");
        due.raises("beyond 500, and stopped", ARGUMENT, () -> late.run(18));
        due.raises("up to 500, and stopped", STATE, () -> late.run(17));
    }

    @Holds(promise = 12, words = "A method that throws an exception changes nothing.")
    static void refusedCallsChangeNothing() {
        Reorderium fresh = Due.program(Due.i(9, 1, 2, 2, 1), Due.i(15, 3, 0, 0, 2), Due.stop());
        refuseAll(fresh, "new");
        fresh.setHandlers(-1, 1);
        fresh.run(3);
        refuseAll(fresh, "under way");
        refuseLate(fresh, "under way");
        fresh.interrupt();
        fresh.run(1);
        refuseLate(fresh, "handling");
        Due.runOut(fresh);
        refuseAll(fresh, "stopped");
        refuseLate(fresh, "stopped");
        String before = Model.look(fresh);
        due.raises("run of a stopped one", STATE, () -> fresh.run(1));
        due.same("run of a stopped one", Model.look(fresh), before);
    }

    private static void refuseAll(Reorderium core, String when) {
        String before = Model.look(core);
        due.raises("add", ARGUMENT, () -> core.add(14, 0, 0, 0, 64));
        due.raises("setRegister", ARGUMENT, () -> core.setRegister(8, 9));
        due.raises("setWord", ARGUMENT, () -> core.setWord(64, 9));
        due.raises("setWidth", ARGUMENT, () -> core.setWidth(5));
        due.raises("setBuffer", ARGUMENT, () -> core.setBuffer(3));
        due.raises("setQueue", ARGUMENT, () -> core.setQueue(9));
        due.raises("setInner", ARGUMENT, () -> core.setInner(25));
        due.raises("setHandlers", ARGUMENT, () -> core.setHandlers(0, 64));
        due.raises("setTime", ARGUMENT, () -> core.setTime(0, 31));
        due.raises("run", ARGUMENT, () -> core.run(61));
        due.raises("kindAt", IndexOutOfBoundsException.class, () -> core.kindAt(core.ends()));
        due.raises("returnAt", IndexOutOfBoundsException.class, () -> core.returnAt(core.returns()));
        due.raises("freeAt", IndexOutOfBoundsException.class, () -> core.freeAt(core.free()));
        due.raises("lost", ARGUMENT, () -> core.lost('z'));
        due.same(when, Model.look(core), before);
    }

    private static void refuseLate(Reorderium core, String when) {
        String before = Model.look(core);
        due.raises("add", STATE, () -> core.add(0, 0, 0, 0, 0));
        due.raises("setRegister", STATE, () -> core.setRegister(0, 9));
        due.raises("setWord", STATE, () -> core.setWord(0, 9));
        due.raises("setWidth", STATE, () -> core.setWidth(4));
        due.raises("setBuffer", STATE, () -> core.setBuffer(4));
        due.raises("setQueue", STATE, () -> core.setQueue(8));
        due.raises("setInner", STATE, () -> core.setInner(24));
        due.raises("setHandlers", STATE, () -> core.setHandlers(0, 0));
        due.same(when, Model.look(core), before);
    }
}
