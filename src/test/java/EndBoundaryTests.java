import java.util.NoSuchElementException;

/** The edges of numbers, instructions, the plain machine and ends, promises 13 to 25: each test holds its words. */
final class EndBoundaryTests {
    private static final Class<IllegalArgumentException> ARGUMENT = IllegalArgumentException.class;
    private static final Class<IndexOutOfBoundsException> INDEX = IndexOutOfBoundsException.class;
    private static final Class<NoSuchElementException> ELEMENT = NoSuchElementException.class;
    private static final int MIN = Integer.MIN_VALUE;
    private static final int MAX = Integer.MAX_VALUE;
    private static final Due due = new Due();

    public static void main(String[] args) {
        due.runAll(EndBoundaryTests.class);
        due.end();
    }

    /** What register 3 becomes by the code, for the core and the plain machine. */
    private static void becomes(int code, int a, int b, int result) {
        Reorderium core = Due.program(Due.i(code, 3, 1, 2, 0), Due.stop());
        core.setRegister(1, a);
        core.setRegister(2, b);
        core.setRegister(3, 99);
        Due.runOut(core);
        due.same(code + " of " + a + " and " + b, core.register(3), result);
        due.same(code + " of " + a + " and " + b + " by the plain machine", core.registerByPlain(3), result);
    }

    /** The ends of a program with this instruction at the place 0, and stops at 1 and 63. */
    private static void goes(int[] instruction, int a, int b, String ends) {
        Reorderium core = withLast(instruction, Due.stop());
        core.setRegister(1, a);
        core.setRegister(2, b);
        Due.runOut(core);
        due.same("ends of " + instruction[0] + " with " + a + " and " + b, Due.ends(core), ends);
        due.same("the same by the plain machine", Due.endsByPlain(core), ends);
        due.same("isSame", core.isSame(), true);
    }

    /** A program of 64 instructions: the first one, stops, and the last one. */
    private static Reorderium withLast(int[] first, int[] last) {
        Reorderium core = Due.program(first);
        for (int place = 1; place < 63; place++) {
            core.add(18, 0, 0, 0, 0);
        }
        core.add(last[0], last[1], last[2], last[3], last[4]);
        return core;
    }

    @Holds(promise = 20, words = "Values are ints; sums, differences and products go round, and quotients are cut, "
            + "as they are in Java.")
    static void numbersGoRound() {
        becomes(2, MAX, 1, MIN);
        becomes(2, MIN, -1, MAX);
        becomes(3, MIN, 1, MAX);
        becomes(3, 0, MIN, MIN);
        becomes(4, MIN, -1, MIN);
        becomes(4, MAX, MAX, 1);
        becomes(4, 65536, 32768, MIN);
        becomes(5, MIN, -1, MIN);
        becomes(5, -7, 2, -3);
        becomes(5, 7, -2, -3);
        becomes(5, -1, 2, 0);
        becomes(5, MIN, MAX, -1);
    }

    @Holds(promise = 20, words = "There are the registers 0 to 7 and the addresses 0 to 63 of words, all 0 at first.")
    static void allZeroAtFirst() {
        Reorderium core = new Reorderium();
        for (int r = 0; r < 8; r++) {
            due.same("register", core.register(r), 0);
            due.same("registerByPlain", core.registerByPlain(r), 0);
        }
        for (int address = 0; address < 64; address++) {
            due.same("word", core.word(address), 0);
            due.same("wordByPlain", core.wordByPlain(address), 0);
        }
    }

    @Holds(promise = 20, words = "0 does nothing. 1: d becomes n.")
    static void anyNumber() {
        for (int n : new int[] {0, -1, 64, MIN, MAX}) {
            Reorderium core = Due.program(Due.i(1, 0, 0, 0, n), Due.i(1, 7, 0, 0, n), Due.i(0, 1, 0, 0, n), Due.stop());
            core.setRegister(0, 5);
            core.setRegister(1, 6);
            Due.runOut(core);
            due.same("n", core.register(0) + " " + core.register(7) + " " + core.register(1), n + " " + n + " 6");
        }
    }

    @Holds(promise = 16, words = "5: a / b, but trap 1 if b is 0.")
    static void divisorIsZero() {
        goes(Due.i(5, 3, 1, 2, 0), 7, 0, "1@0");
        goes(Due.i(5, 3, 1, 2, 0), 0, 0, "1@0");
        goes(Due.i(5, 3, 1, 2, 0), MIN, 0, "1@0");
        goes(Due.i(5, 3, 1, 2, 0), 0, 1, "0@0 0@1");
        goes(Due.i(5, 3, 1, 2, 0), 7, -1, "0@0 0@1");
    }

    @Holds(promise = 20, words = "8: 1 if a is less than b, else 0")
    static void isLess() {
        becomes(8, 4, 5, 1);
        becomes(8, 5, 5, 0);
        becomes(8, 6, 5, 0);
        becomes(8, MIN, MAX, 1);
        becomes(8, MAX, MIN, 0);
        becomes(8, MIN, MIN, 0);
    }

    @Holds(promise = 20, words = "6: a & b. 7: a ^ b.")
    static void bits() {
        becomes(6, 0x0F0F0F0F, 0x00FF00FF, 0x000F000F);
        becomes(6, MIN, -1, MIN);
        becomes(7, 0x0F0F0F0F, 0x00FF00FF, 0x0FF00FF0);
        becomes(7, MIN, -1, MAX);
    }

    @Holds(promise = 22, words = "11: the lower 16 bits of this word become those of b.")
    static void lowerHalf() {
        int[][] rows = {{0, -1, 0xFFFF}, {-1, 0, 0xFFFF0000}, {0x12345678, 0xABCD8000, 0x12348000},
            {0x80000000, 0x7FFF7FFF, 0x80007FFF}, {0x7FFFFFFF, 0x00010000, 0x7FFF0000}};
        for (int[] row : rows) {
            Reorderium core = Due.program(Due.i(11, 0, 1, 2, 63), Due.i(11, 0, 1, 2, 0), Due.stop());
            core.setRegister(2, row[1]);
            core.setWord(63, row[0]);
            core.setWord(0, row[0]);
            Due.runOut(core);
            due.same("the last word", core.word(63), row[2]);
            due.same("the first word by the plain machine", core.wordByPlain(0), row[2]);
            due.same("isSame", core.isSame(), true);
        }
    }

    @Holds(promise = 16, words = "By 9 to 11, it is trap 2 if there is no such address.")
    static void noSuchAddress() {
        for (int code = 9; code <= 11; code++) {
            goes(Due.i(code, 3, 1, 2, 0), -1, 0, "2@0");
            goes(Due.i(code, 3, 1, 2, 0), 64, 0, "2@0");
            goes(Due.i(code, 3, 1, 2, 64), 0, 0, "2@0");
            goes(Due.i(code, 3, 1, 2, -1), 0, 0, "2@0");
            goes(Due.i(code, 3, 1, 2, 1), MAX, 0, "2@0");
            goes(Due.i(code, 3, 1, 2, 0), 0, 0, "0@0 0@1");
            goes(Due.i(code, 3, 1, 2, 0), 63, 0, "0@0 0@1");
            goes(Due.i(code, 3, 1, 2, 64), -1, 0, "0@0 0@1");
            goes(Due.i(code, 3, 1, 2, -64), 64, 0, "0@0 0@1");
        }
    }

    @Holds(promise = 22, words = "10: the word at the address a + n becomes b.")
    static void addressesGoRound() {
        Reorderium core = Due.program(Due.i(10, 0, 1, 2, MIN), Due.i(9, 3, 1, 0, MIN), Due.i(10, 0, 3, 2, MAX),
                Due.stop());
        core.setRegister(1, MIN + 63);
        core.setRegister(2, MIN + 1);
        Due.runOut(core);
        due.same("MIN and MIN + 63 are 63", core.word(63), MIN + 1);
        due.same("the load", core.register(3), MIN + 1);
        due.same("MAX and MIN + 1 are 0", core.word(0), MIN + 1);
        due.same("isSame", core.isSame(), true);
    }

    @Holds(promise = 17, words = "12 goes to the place n if a and b are the same, 13 if a is less than b, 14 always.")
    static void jumps() {
        goes(Due.i(12, 0, 1, 2, 63), 4, 4, "0@0 0@63");
        goes(Due.i(12, 0, 1, 2, 63), 4, 5, "0@0 0@1");
        goes(Due.i(12, 0, 1, 2, 63), MIN, MAX, "0@0 0@1");
        goes(Due.i(13, 0, 1, 2, 63), 4, 5, "0@0 0@63");
        goes(Due.i(13, 0, 1, 2, 63), 5, 5, "0@0 0@1");
        goes(Due.i(13, 0, 1, 2, 63), 6, 5, "0@0 0@1");
        goes(Due.i(13, 0, 1, 2, 63), MIN, MAX, "0@0 0@63");
        goes(Due.i(14, 0, 1, 2, 63), 4, 5, "0@0 0@63");
        goes(Due.i(14, 0, 1, 2, 1), 4, 5, "0@0 0@1");
    }

    @Holds(promise = 20, words = "15: d becomes the next place, and it goes to n.")
    static void callOfTheLast() {
        Reorderium core = withLast(Due.i(14, 0, 0, 0, 63), Due.i(15, 7, 0, 0, 1));
        Due.runOut(core);
        due.same("ends", Due.ends(core), "0@0 0@63 0@1");
        due.same("d", core.register(7), 64);
        due.same("d by the plain machine", core.registerByPlain(7), 64);
    }

    @Holds(promise = 16, words = "16 and 17 go to the place a, but it is trap 3 if this is not from 0 to 63.")
    static void noSuchPlace() {
        for (int code = 16; code <= 17; code++) {
            goes(Due.i(code, 0, 1, 0, 0), 64, 0, "3@0");
            goes(Due.i(code, 0, 1, 0, 0), -1, 0, "3@0");
            goes(Due.i(code, 0, 1, 0, 0), MIN, 0, "3@0");
            goes(Due.i(code, 0, 1, 0, 0), MAX, 0, "3@0");
            goes(Due.i(code, 0, 1, 0, 0), 63, 0, "0@0 0@63");
            Reorderium zero = Due.program(Due.i(code, 0, 1, 0, 0));
            zero.run(20);
            due.same("0 is a place", zero.placeAt(1), 0);
            Reorderium behind = Due.program(Due.i(code, 0, 1, 0, 0));
            behind.setRegister(1, 63);
            behind.run(20);
            due.same("a place without an instruction is no trap", Due.ends(behind) + " " + behind.fetching(), "0@0 63");
        }
    }

    @Holds(promise = 14, words = "18 stops the machine.")
    static void stops() {
        Reorderium core = Due.program(Due.nothing(), Due.stop(), Due.nothing());
        core.run(2);
        due.same("not yet", core.hasStopped(), false);
        core.run(60);
        due.same("now", core.hasStopped(), true);
        due.same("nothing behind it", Due.ends(core), "0@0 0@1");
        Reorderium jumped = Due.program(Due.i(12, 0, 0, 0, 2), Due.stop(), Due.i(14, 0, 0, 0, 2));
        jumped.run(60);
        due.same("not one that is thrown away", jumped.hasStopped(), false);
    }

    @Holds(promise = 16, words = "it is trap 5 if nothing is handled.")
    static void nothingIsHandled() {
        Reorderium core = Due.program(Due.i(21, 0, 0, 0, 0), Due.i(21, 0, 0, 0, 0), Due.stop());
        core.setHandlers(1, -1);
        Due.runOut(core);
        due.same("the first 21 traps, the next one goes back to 1, and traps", Due.ends(core).substring(0, 11),
                "5@0 0@1 5@1");
        due.same("isSame", core.isSame(), true);
    }

    @Holds(promise = 37, words = "An instruction that goes nowhere else goes to the next place.")
    static void behindTheLastPlace() {
        Reorderium core = withLast(Due.i(14, 0, 0, 0, 63), Due.nothing());
        core.run(20);
        due.same("ends", Due.ends(core), "0@0 0@63");
        due.same("the next place is 64", core.fetching(), 64);
        Reorderium branch = withLast(Due.i(14, 0, 0, 0, 63), Due.i(13, 0, 1, 1, 0));
        branch.run(20);
        due.same("a 13 that is not so", Due.ends(branch) + " " + branch.fetching(), "0@0 0@63 64");
    }

    @Holds(promise = 19, words = "At a place without an instruction it does nothing, for ever, unless it is interrupted.")
    static void nothingThere() {
        Reorderium core = Due.program(Due.i(14, 0, 0, 0, 2), Due.i(21, 0, 0, 0, 0));
        core.setHandlers(1, 1);
        core.run(60);
        core.run(60);
        due.same("for ever", Due.ends(core) + " " + core.hasStopped(), "0@0 false");
        core.interrupt();
        core.run(1);
        due.same("an interrupt", Due.endsByPlain(core) + " " + core.kept(), "0@0 9@2 2");
        core.run(10);
        due.same("and back", Due.endsByPlain(core) + " " + core.fetching(), "0@0 9@2 0@1 2");
    }

    @Holds(promise = 19, words = "It begins at the place 0")
    static void firstPlace() {
        Reorderium core = Due.program(Due.stop(), Due.nothing());
        core.run(3);
        due.same("the first end", core.placeAt(0) + " " + core.placeByPlain(0), "0 0");
    }

    @Holds(promise = 14, words = "if something is handled, or there is no handler of traps, the machine stops")
    static void trapsThatStop() {
        Reorderium none = Due.program(Due.i(20, 0, 0, 0, 0), Due.stop());
        none.setHandlers(-1, 1);
        none.run(60);
        due.same("no handler of traps", Due.ends(none) + " " + none.hasStopped(), "4@0 true");
        due.raises("kept", ELEMENT, none::kept);
        Reorderium trapped = Due.program(Due.i(20, 0, 0, 0, 0), Due.i(20, 0, 0, 0, 0), Due.stop());
        trapped.setHandlers(1, -1);
        trapped.run(60);
        due.same("a trap is handled", Due.ends(trapped) + " " + trapped.hasStopped(), "4@0 4@1 true");
        due.same("kept", trapped.kept(), 1);
        Reorderium asked = Due.program(Due.nothing(), Due.i(20, 0, 0, 0, 0));
        asked.setHandlers(0, 1);
        asked.interrupt();
        asked.run(60);
        due.same("an interrupt is handled", Due.ends(asked) + " " + asked.hasStopped(), "9@0 4@1 true");
        due.same("kept is that of the interrupt", asked.kept(), 0);
        due.same("isSame", none.isSame() && trapped.isSame() && asked.isSame(), true);
    }

    @Holds(promise = 24, words = "otherwise, the next place is kept, something is handled from then on, "
            + "and it goes to the handler of traps.")
    static void trapsThatAreHandled() {
        Reorderium core = withLast(Due.i(14, 0, 0, 0, 63), Due.i(20, 0, 0, 0, 0));
        core.setHandlers(1, -1);
        core.run(4);
        due.same("the place behind 63 is kept", core.kept(), 64);
        Due.runOut(core);
        due.same("ends", Due.ends(core), "0@0 4@63 0@1");
        Reorderium again = Due.program(Due.i(20, 0, 0, 0, 0), Due.i(20, 0, 0, 0, 0), Due.stop(), Due.i(21, 0, 0, 0, 0));
        again.setHandlers(3, -1);
        Due.runOut(again);
        due.same("behind the 21, a trap is handled again", Due.ends(again), "4@0 0@3 4@1 0@3 0@2");
    }

    @Holds(promise = 24, words = "When an interrupt is taken ahead of an instruction, the place of this one is kept, "
            + "something is handled, and it goes to the handler of interrupts.")
    static void interruptsAreHandled() {
        Reorderium first = Due.program(Due.nothing(), Due.stop());
        first.setHandlers(-1, 1);
        first.interrupt();
        first.run(1);
        due.same("ahead of the first one", first.kept() + " " + Due.ends(first), "0 9@0");
        Reorderium core = Due.program(Due.nothing(), Due.nothing(), Due.i(14, 0, 0, 0, 2), Due.i(21, 0, 0, 0, 0));
        core.setHandlers(-1, 3);
        core.run(5);
        int ends = core.ends();
        core.interrupt();
        core.run(1);
        due.same("kept", core.kept(), 2);
        due.same("the end", core.kindAt(ends) + "@" + core.placeAt(ends), "9@2");
        due.same("the same by the plain machine", core.kindByPlain(ends) + "@" + core.placeByPlain(ends), "9@2");
        due.same("isSame", core.isSame(), true);
        core.run(6);
        due.same("the handler, and back", core.placeByPlain(ends + 1) + " " + core.placeByPlain(ends + 2), "3 2");
        due.same("isSame", core.isSame(), true);
    }

    @Holds(promise = 21, words = "When an instruction traps, it does nothing else")
    static void trapsDoNothingElse() {
        int[][] rows = {{5, 3, 1, 2, 0}, {9, 3, 4, 0, 0}, {10, 3, 4, 3, 0}, {11, 3, 4, 3, 0}};
        for (int[] row : rows) {
            Reorderium core = Due.program(row, Due.stop());
            core.setRegister(3, 99);
            core.setRegister(4, 64);
            core.setHandlers(1, -1);
            Due.runOut(core);
            due.same("register 3", core.register(3) + " " + core.registerByPlain(3), "99 99");
            due.same("words", core.word(0) + core.word(63) + core.wordByPlain(0) + core.wordByPlain(63), 0);
            due.same("kind", core.kindAt(0) > 0, true);
        }
    }

    @Holds(promise = 13, words = "In a cycle, the number of the cycle increases by 1")
    static void cyclesAreCounted() {
        Reorderium core = Due.program(Due.i(14, 0, 0, 0, 0));
        due.same("at first", core.cycle(), 0);
        core.run(1);
        due.same("one", core.cycle(), 1);
        core.run(60);
        due.same("sixty more", core.cycle(), 61);
    }

    @Holds(promise = 13, words = "and then the following six things are done in this order: answers, endings, retiring, "
            + "beginnings, renaming, fetching.")
    static void sixThingsInACycle() {
        // In the cycle 9 the line comes, the load ends and retires, the sum begins, 4 is renamed, and 8 is fetched.
        Reorderium core = Due.program(Due.i(9, 1, 0, 0, 0), Due.i(2, 2, 1, 1, 0));
        for (int place = 2; place < 20; place++) {
            core.add(0, 0, 0, 0, 0);
        }
        core.setBuffer(4);
        core.run(8);
        due.same("the buffer and the line are full", core.inBuffer() + " " + core.fetched() + " " + core.fetching(), "4 4 8");
        core.run(11);
        due.same("the load", Due.life(core, 0), "1 2 3 9 9");
        due.same("the sum", core.life(1, 2), 9);
        due.same("4", core.life(4, 1), 9);
        due.same("8", core.life(8, 0), 9);
    }

    @Holds(promise = 13, words = "When the core has stopped, no more cycles come.")
    static void noMoreCycles() {
        Reorderium core = Due.program(Due.nothing(), Due.stop());
        core.run(60);
        due.same("cycle", core.cycle(), 3);
        due.raises("run", IllegalStateException.class, () -> core.run(1));
        due.same("cycle", core.cycle(), 3);
        Reorderium trap = Due.program(Due.nothing(), Due.i(20, 0, 0, 0, 0));
        trap.run(60);
        due.same("cycle of a trap", trap.cycle(), 3);
    }

    @Holds(promise = 15, words = "Each instruction that retires, each trap and each interrupt is an end; "
            + "ends are numbered from 0.")
    static void endsAreNumbered() {
        Reorderium core = Due.program(Due.i(20, 0, 0, 0, 0), Due.stop(), Due.i(21, 0, 0, 0, 0));
        core.setHandlers(2, 2);
        due.same("none", core.ends(), 0);
        core.interrupt();
        core.run(60);
        due.same("ends", Due.ends(core), "9@0 0@2 4@0 0@2 0@1");
        due.same("their number", core.ends(), 5);
        due.same("the first one", core.kindAt(0), 9);
        due.same("the last one", core.placeAt(4), 1);
    }

    @Holds(promise = 17, words = "An end has a kind, 0 if an instruction retired, the number of the trap, or 9 for an interrupt, "
            + "and a place, that of the instruction, or the kept one for an interrupt.")
    static void kindsAndPlaces() {
        int[][] traps = {{5, 1, 6, 6, 0}, {9, 1, 6, 6, 64}, {17, 1, 5, 6, 0}, {20, 1, 6, 6, 0}, {21, 1, 6, 6, 0}};
        for (int kind = 1; kind <= 5; kind++) {
            Reorderium core = Due.program(Due.nothing(), traps[kind - 1], Due.stop(), Due.nothing());
            core.setRegister(5, 64);
            core.setHandlers(3, 3);
            core.run(30);
            core.interrupt();
            core.run(1);
            due.same("the trap " + kind + ", and no interrupt behind it", Due.ends(core), "0@0 " + kind + "@1 0@3");
        }
        Reorderium asked = Due.program(Due.nothing(), Due.nothing());
        asked.setHandlers(-1, 0);
        asked.run(10);
        asked.interrupt();
        asked.run(1);
        due.same("the kept place of an interrupt, where nothing is", Due.ends(asked) + " " + asked.kept(), "0@0 0@1 9@2 2");
    }

    @Holds(promise = 24, words = "21 goes to the place that is kept, and ends the handling")
    static void goesBack() {
        Reorderium core = Due.program(Due.i(14, 0, 0, 0, 2), Due.stop(), Due.i(20, 0, 0, 0, 0), Due.i(14, 0, 0, 0, 1),
                Due.i(21, 0, 0, 0, 0));
        core.setHandlers(4, -1);
        Due.runOut(core);
        due.same("to 3, behind the trap at 2", Due.ends(core), "0@0 4@2 0@4 0@3 0@1");
        due.raises("nothing is handled", ELEMENT, core::kept);
    }

    @Holds(promise = 25, words = "An instruction that began in the cycle c with a delay ends in the cycle c plus the delay.")
    static void delays() {
        int[][] rows = {{1, 1}, {2, 1}, {3, 1}, {4, 3}, {5, 6}, {6, 1}, {7, 1}, {8, 1}, {10, 1}, {11, 1}, {12, 1}, {13, 1},
            {16, 1}, {17, 1}};
        for (int[] row : rows) {
            Reorderium core = Due.program(Due.i(row[0], 1, 2, 2, 1), Due.stop());
            core.setRegister(2, 1);
            Due.runOut(core);
            int ended = 3 + row[1];
            due.same("code " + row[0], Due.life(core, 0), "1 2 3 " + ended + " " + ended);
        }
    }

    private static void refusesEnds(String what, java.util.function.BiConsumer<Reorderium, Integer> call) {
        Reorderium core = Due.program(Due.nothing(), Due.stop());
        due.raises(what + " of 0 when there is none", INDEX, () -> call.accept(core, 0));
        Due.runOut(core);
        for (int bad : new int[] {-1, 2, MIN, MAX}) {
            due.raises(what + " of " + bad + " when there are 2", INDEX, () -> call.accept(core, bad));
        }
        call.accept(core, 0);
        call.accept(core, 1);
    }

    @Holds(promise = 16, words = "Throws IndexOutOfBoundsException if there is no such end")
    static void kindOfNoEnd() {
        refusesEnds("kindAt", Reorderium::kindAt);
    }

    @Holds(promise = 17, words = "Throws IndexOutOfBoundsException if there is no such end")
    static void placeOfNoEnd() {
        refusesEnds("placeAt", Reorderium::placeAt);
    }

    @Holds(promise = 18, words = "Throws IndexOutOfBoundsException if there is no such end")
    static void plainKindOfNoEnd() {
        refusesEnds("kindByPlain", Reorderium::kindByPlain);
    }

    @Holds(promise = 19, words = "Throws IndexOutOfBoundsException if there is no such end")
    static void plainPlaceOfNoEnd() {
        refusesEnds("placeByPlain", Reorderium::placeByPlain);
    }

    @Holds(promise = 25, words = "Throws IndexOutOfBoundsException if there is no such end")
    static void lifeOfNoEnd() {
        refusesEnds("life", (core, end) -> core.life(end, 0));
        refusesEnds("life of the last part", (core, end) -> core.life(end, 4));
        Reorderium core = new Reorderium();
        due.raises("no end, and no such part", INDEX, () -> core.life(0, 5));
        due.raises("no end, and no such part", INDEX, () -> core.life(-1, -1));
    }

    @Holds(promise = 18, words = "Returns 0, the number of the trap, or 9; -1 if there is no instruction at its place.")
    static void plainKindWhereNothingIs() {
        Reorderium core = Due.program(Due.i(20, 0, 0, 0, 0), Due.i(14, 0, 0, 0, 63), Due.i(21, 0, 0, 0, 0));
        core.setHandlers(2, 2);
        core.run(30);
        core.interrupt();
        core.run(30);
        due.same("the core ends nothing where nothing is, so it is never -1", Due.endsByPlain(core),
                "4@0 0@2 0@1 9@63 0@2");
    }

    private static void refuses(String what, int many, java.util.function.BiConsumer<Reorderium, Integer> call) {
        Reorderium core = Due.program(Due.nothing(), Due.stop());
        for (int round = 0; round < 2; round++) {
            for (int bad : new int[] {-1, many, MIN, MAX}) {
                due.raises(what + " of " + bad, ARGUMENT, () -> call.accept(core, bad));
            }
            call.accept(core, 0);
            call.accept(core, many - 1);
            Due.runOut(core);
        }
    }

    @Holds(promise = 20, words = "Throws IllegalArgumentException if there is no such register")
    static void noRegister() {
        refuses("register", 8, Reorderium::register);
    }

    @Holds(promise = 21, words = "Throws IllegalArgumentException if there is no such register")
    static void noRegisterByPlain() {
        refuses("registerByPlain", 8, Reorderium::registerByPlain);
    }

    @Holds(promise = 22, words = "Throws IllegalArgumentException if there is no such address")
    static void noWord() {
        refuses("word", 64, Reorderium::word);
    }

    @Holds(promise = 23, words = "Throws IllegalArgumentException if there is no such address")
    static void noWordByPlain() {
        refuses("wordByPlain", 64, Reorderium::wordByPlain);
    }

    @Holds(promise = 20, words = "Returns a register behind all ends, as the core has it.")
    static void registerBehindAllEnds() {
        Reorderium core = Due.program(Due.i(5, 1, 2, 2, 0), Due.i(1, 3, 0, 0, 7), Due.stop());
        core.setRegister(2, 1);
        core.run(8);
        due.same("one that has ended, but not retired, is not told", core.register(3), 0);
        core.run(1);
        due.same("now", core.register(1) + " " + core.register(3), "1 7");
    }

    @Holds(promise = 22, words = "Returns a word behind all ends, as the core has it.")
    static void wordBehindAllEnds() {
        Reorderium core = Due.program(Due.i(5, 1, 2, 2, 0), Due.i(10, 0, 3, 2, 63), Due.stop());
        core.setRegister(2, 1);
        core.run(8);
        due.same("one that has ended, but not retired, is not told", core.word(63), 0);
        core.run(1);
        due.same("now", core.word(63), 1);
    }

    @Holds(promise = 24, words = "Throws NoSuchElementException if nothing is handled")
    static void nothingKept() {
        Reorderium core = Due.program(Due.i(20, 0, 0, 0, 0), Due.stop(), Due.i(21, 0, 0, 0, 0));
        core.setHandlers(2, -1);
        due.raises("at first", ELEMENT, core::kept);
        core.run(2);
        due.raises("ahead of the trap", ELEMENT, core::kept);
        core.run(1);
        due.same("behind the trap", core.kept(), 1);
        core.run(1);
        due.same("the 21 is there", core.kept(), 1);
        core.run(1);
        due.raises("behind the 21", ELEMENT, core::kept);
        Due.runOut(core);
        due.raises("when it has stopped", ELEMENT, core::kept);
    }

    @Holds(promise = 25, words = "Throws IllegalArgumentException if it is not from 0 to 4")
    static void partsOfLife() {
        Reorderium core = Due.program(Due.i(1, 1, 0, 0, 0), Due.stop());
        core.setHandlers(-1, 0);
        core.interrupt();
        Due.runOut(core);
        for (int bad : new int[] {-1, 5, MIN, MAX}) {
            due.raises("life of " + bad, ARGUMENT, () -> core.life(1, bad));
            due.raises("life of " + bad + " of an interrupt", ARGUMENT, () -> core.life(0, bad));
            due.raises("life of " + bad + " of one that never was in the queue", ARGUMENT, () -> core.life(2, bad));
        }
        due.same("0 to 4", Due.life(core, 1), "1 2 3 4 4");
    }

    @Holds(promise = 25, words = "Throws NoSuchElementException if it is an interrupt, or the instruction never was in "
            + "the queue and 2 is asked")
    static void noLife() {
        Reorderium core = Due.program(Due.i(1, 1, 0, 0, 0), Due.i(20, 0, 0, 0, 0));
        core.setHandlers(-1, 0);
        core.interrupt();
        Due.runOut(core);
        for (int what = 0; what < 5; what++) {
            int w = what;
            due.raises("an interrupt", ELEMENT, () -> core.life(0, w));
        }
        due.raises("a trap that never was in the queue", ELEMENT, () -> core.life(2, 2));
        due.same("else", Due.life(core, 1) + ", " + Due.life(core, 2), "1 2 3 4 4, 1 2 - 2 4");
        for (int code : new int[] {0, 14, 15, 18, 19, 20, 21}) {
            Reorderium never = Due.program(Due.i(code, 1, 0, 0, 1), Due.stop());
            Due.runOut(never);
            due.raises("code " + code, ELEMENT, () -> never.life(0, 2));
            due.same("code " + code + " had ended", never.life(0, 3), 2);
        }
        for (int code : new int[] {1, 2, 3, 4, 6, 7, 8, 9, 10, 11, 12, 13, 16, 17}) {
            Reorderium was = Due.program(Due.i(code, 1, 0, 0, 1), Due.stop());
            was.run(60);
            due.same("code " + code + " has begun", was.life(0, 2), 3);
        }
    }

    @Holds(promise = 25, words = "retired or trapped, 4.")
    static void lifeOfTraps() {
        Reorderium core = Due.program(Due.i(5, 1, 2, 2, 0), Due.i(5, 1, 2, 3, 0));
        core.setRegister(2, 1);
        core.setWidth(1);
        Due.runOut(core);
        due.same("retired", Due.life(core, 0), "1 2 3 9 9");
        due.same("trapped", Due.life(core, 1), "2 3 9 15 15");
    }
}
