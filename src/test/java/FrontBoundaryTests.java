import java.util.NoSuchElementException;
import java.util.function.BiConsumer;

/** The edges of fetching, renaming, inner registers and guesses, promises 26 to 40: each test holds its words. */
final class FrontBoundaryTests {
    private static final Class<IllegalArgumentException> ARGUMENT = IllegalArgumentException.class;
    private static final Class<IndexOutOfBoundsException> INDEX = IndexOutOfBoundsException.class;
    private static final Class<NoSuchElementException> ELEMENT = NoSuchElementException.class;
    private static final int MIN = Integer.MIN_VALUE;
    private static final int MAX = Integer.MAX_VALUE;
    private static final Due due = new Due();

    public static void main(String[] args) {
        due.runAll(FrontBoundaryTests.class);
        due.end();
    }

    /** A slow quotient at the place 0, and behind it as often as told the same instruction. */
    private static Reorderium behindSlow(int many, int[] instruction) {
        Reorderium core = Due.program(Due.i(5, 1, 2, 2, 0));
        for (int i = 0; i < many; i++) {
            core.add(instruction[0], instruction[1], instruction[2], instruction[3], instruction[4]);
        }
        core.setRegister(2, 1);
        return core;
    }

    @Holds(promise = 37, words = "The place of fetching is 0 at first.")
    static void firstPlace() {
        due.same("fetching of a new one", new Reorderium().fetching(), 0);
        Reorderium core = Due.program(Due.nothing());
        core.setWidth(1);
        core.run(1);
        due.same("the next one", core.fetching(), 1);
    }

    @Holds(promise = 36, words = "At most as many instructions as the width tells are fetched, one after the other")
    static void fetchesTheWidth() {
        for (int width = 1; width <= 4; width++) {
            Reorderium core = behindSlow(30, Due.nothing());
            core.setWidth(width);
            core.run(1);
            due.same("fetched by " + width, core.fetched(), width);
            due.same("fetching by " + width, core.fetching(), width);
        }
    }

    @Holds(promise = 36, words = "as long as the line of fetched ones has fewer than twice the width")
    static void fetchesTwiceTheWidth() {
        for (int width = 1; width <= 4; width++) {
            Reorderium core = Due.program(Due.i(5, 1, 2, 2, 0), Due.i(19, 0, 0, 0, 0));
            for (int i = 0; i < 20; i++) {
                core.add(0, 0, 0, 0, 0);
            }
            core.setRegister(2, 1);
            core.setWidth(width);
            core.run(2);
            due.same("one has left it, by " + width, core.fetched(), width == 1 ? 1 : 2 * width - 1);
            core.run(1);
            due.same("full by " + width, core.fetched(), 2 * width);
            due.same("the place by " + width, core.fetching(), 1 + 2 * width);
            core.run(5);
            due.same("still full by " + width, core.fetched() + " " + core.fetching(), 2 * width + " " + (1 + 2 * width));
        }
    }

    @Holds(promise = 36, words = "and there is an instruction at the place of fetching")
    static void fetchesWhereSomethingIs() {
        Reorderium core = Due.program(Due.nothing(), Due.nothing(), Due.nothing());
        core.setWidth(4);
        core.run(1);
        due.same("three of four", core.fetched() + " " + core.fetching(), "3 3");
        core.run(3);
        due.same("no more", core.fetched() + " " + core.fetching() + " " + core.ends(), "0 3 3");
        Reorderium jump = Due.program(Due.i(14, 0, 0, 0, 1));
        jump.run(9);
        due.same("one behind the last", jump.fetched() + " " + jump.fetching() + " " + jump.ends(), "0 1 1");
    }

    @Holds(promise = 37, words = "and if this is not the next place, no more are fetched in this cycle.")
    static void noMoreBehindJumps() {
        int[][] jumps = {{14, 0, 0, 0, 2}, {15, 0, 0, 0, 2}, {14, 0, 0, 0, 0}, {15, 0, 0, 0, 0}};
        for (int[] jump : jumps) {
            Reorderium core = Due.program(jump, Due.nothing(), Due.nothing(), Due.nothing(), Due.nothing());
            core.setWidth(4);
            core.run(1);
            due.same("only the jump to " + jump[4], core.fetched() + " " + core.fetching(), "1 " + jump[4]);
        }
        for (int code = 14; code <= 15; code++) {
            Reorderium next = Due.program(Due.i(code, 0, 0, 0, 1), Due.i(code, 0, 0, 0, 2), Due.i(code, 0, 0, 0, 3),
                    Due.nothing(), Due.nothing());
            next.setWidth(4);
            next.run(1);
            due.same("jumps to the next place by " + code, next.fetched() + " " + next.fetching(), "4 4");
        }
    }

    @Holds(promise = 37, words = "Behind a code 18 or 21, nothing is fetched until fetching is told to go on.")
    static void nothingBehindStops() {
        for (int code : new int[] {18, 21}) {
            Reorderium core = Due.program(Due.i(13, 0, 1, 2, 3), Due.i(code, 0, 0, 0, 0), Due.nothing(), Due.nothing());
            core.setRegister(2, 1);
            core.setWidth(4);
            core.run(1);
            due.same("behind " + code, core.fetched(), 2);
            due.raises("behind " + code, ELEMENT, core::fetching);
            core.run(2);
            due.raises("still behind " + code, ELEMENT, core::fetching);
            core.run(1);
            due.same("told by the 13 that was guessed wrong", core.fetching() + " " + core.fetched(), "4 1");
        }
        Reorderium asked = Due.program(Due.stop(), Due.nothing(), Due.nothing());
        asked.setHandlers(-1, 1);
        asked.run(1);
        asked.interrupt();
        asked.run(1);
        due.same("told by an interrupt", asked.fetching() + " " + asked.fetched(), "3 2");
        Reorderium trap = Due.program(Due.i(20, 0, 0, 0, 0), Due.stop(), Due.nothing());
        trap.setHandlers(2, -1);
        trap.run(3);
        due.same("told by a trap", trap.fetching() + " " + trap.fetched(), "3 1");
    }

    @Holds(promise = 40, words = "for 12 and 13, n if the counter of its place modulo 16, at first 1, is at least 2, "
            + "else the next place")
    static void guessesByCounters() {
        for (int code = 12; code <= 13; code++) {
            Reorderium core = Due.program(Due.i(code, 0, 1, 2, 0), Due.nothing(), Due.nothing());
            core.setRegister(2, code == 12 ? 0 : 1);
            core.setWidth(1);
            core.run(1);
            due.same("by 1, the next place", core.fetching() + " " + core.counter(0), "1 1");
            core.run(3);
            due.same("it has retired", core.counter(0) + " " + core.wrong(), "2 1");
            due.same("by 2, in the same cycle, n", core.fetching(), 0);
            core.run(1);
            due.same("by 2, still", core.fetching(), 0);
            core.run(20);
            due.same("by 3", core.fetching() + " " + core.counter(0) + " " + core.wrong(), "0 3 1");
        }
        Reorderium never = Due.program(Due.i(14, 0, 0, 0, 1), Due.i(12, 0, 0, 1, 0), Due.i(14, 0, 0, 0, 1));
        never.setRegister(1, 1);
        never.run(30);
        due.same("by 0, the next place", never.counter(1) + " " + never.wrong(), "0 0");
    }

    @Holds(promise = 40, words = "n if the counter of its place modulo 16")
    static void countersGoRound() {
        Reorderium core = new Reorderium();
        core.add(12, 0, 0, 0, 15);
        for (int place = 1; place < 15; place++) {
            core.add(18, 0, 0, 0, 0);
        }
        core.add(14, 0, 0, 0, 16);
        core.add(12, 0, 0, 0, 31);
        for (int place = 17; place < 31; place++) {
            core.add(18, 0, 0, 0, 0);
        }
        core.add(12, 0, 0, 0, 32);
        core.add(18, 0, 0, 0, 0);
        Due.runOut(core);
        due.same("ends", Due.ends(core), "0@0 0@15 0@16 0@31 0@32");
        due.same("0 and 16 have one counter, 31 has the last one", core.counter(0) + " " + core.counter(15), "3 2");
        due.same("16 was guessed right by what 0 told", core.wrong(), 1);
        due.same("a jump has no counter; 31 to the next place is never wrong", core.counter(14), 1);
    }

    @Holds(promise = 39, words = "for 16, what is taken from the top of the stack of returns, "
            + "or the next place if that is empty")
    static void guessesByReturns() {
        Reorderium empty = Due.program(Due.i(16, 0, 1, 0, 0), Due.nothing(), Due.nothing());
        empty.setWidth(1);
        empty.run(1);
        due.same("empty: the next place", empty.fetching() + " " + empty.returns(), "1 0");
        Reorderium core = Due.program(Due.i(15, 1, 0, 0, 2), Due.nothing(), Due.i(15, 2, 0, 0, 4), Due.nothing(),
                Due.i(16, 0, 1, 0, 0));
        core.setWidth(1);
        core.run(2);
        due.same("two calls", Due.returns(core), "3 1");
        core.run(1);
        due.same("the top is taken", core.fetching() + " " + Due.returns(core), "3 1");
    }

    @Holds(promise = 37, words = "for 17, what is in the table at its place modulo 8, "
            + "at first the next place of the instruction that asks")
    static void guessesByTable() {
        Reorderium core = new Reorderium();
        core.add(17, 0, 1, 0, 0);
        for (int place = 1; place < 8; place++) {
            core.add(18, 0, 0, 0, 0);
        }
        core.add(17, 0, 2, 0, 0);
        core.add(17, 0, 3, 0, 0);
        core.add(0, 0, 0, 0, 0);
        core.add(0, 0, 0, 0, 0);
        core.setRegister(1, 8);
        core.setRegister(2, 9);
        core.setRegister(3, 0);
        core.setWidth(1);
        core.run(1);
        due.same("0 at first: 1", core.fetching(), 1);
        core.run(3);
        due.same("it was 8", core.wrong() + " " + core.ends() + " " + core.placeAt(0), "1 1 0");
        due.same("8 is fetched, and guesses what 0 told: 8", core.fetching() + " " + core.fetched(), "8 1");
        core.run(3);
        due.same("it was 9", core.wrong() + " " + core.ends() + " " + core.placeAt(1), "2 2 8");
        due.same("9 is fetched, and guesses 10", core.fetching() + " " + core.fetched(), "10 1");
        core.run(3);
        due.same("it was 0", core.wrong() + " " + core.ends() + " " + core.placeAt(2), "3 3 9");
        due.same("0 is fetched, and guesses what 8 told: 9", core.fetching() + " " + core.fetched(), "9 1");
        core.run(1);
        due.same("9 is fetched, and guesses 0", core.fetching(), 0);
    }

    @Holds(promise = 37, words = "the table of a 17 gets the place to which it goes")
    static void onlyOneThatRetiresIsInTheTable() {
        // The 17 at 3 is thrown away by the 13; the 16 at 11 shares its row, but has no table.
        Reorderium core = Due.program(Due.i(5, 1, 2, 2, 0), Due.i(13, 0, 3, 1, 11), Due.nothing(), Due.i(17, 0, 4, 0, 0));
        for (int place = 4; place < 11; place++) {
            core.add(18, 0, 0, 0, 0);
        }
        core.add(16, 0, 5, 0, 0);
        core.add(14, 0, 0, 0, 3);
        core.add(18, 0, 0, 0, 0);
        core.setRegister(2, 1);
        core.setRegister(4, 13);
        core.setRegister(5, 12);
        core.setWidth(1);
        core.run(12);
        due.same("the 17 has been wrong, and is thrown away", core.wrong() + " " + Due.ends(core), "2 0@0 0@1");
        int cycles = 0;
        while (core.ends() < 4 && cycles++ < 20) {
            core.run(1);
        }
        due.same("the 14 goes to 3", Due.ends(core), "0@0 0@1 0@11 0@12");
        due.same("the 17 is fetched again, and guesses its next place: a wrong one", core.wrong(), 2);
        Due.runOut(core);
        due.same("then it is told", Due.ends(core) + " " + core.wrong(), "0@0 0@1 0@11 0@12 0@3 0@13 3");
    }

    @Holds(promise = 37, words = "for 14 and 15, n")
    static void guessesOfJumps() {
        for (int code = 14; code <= 15; code++) {
            for (int n : new int[] {0, 1, 63}) {
                Reorderium core = Due.program(Due.i(code, 1, 0, 0, n), Due.nothing());
                core.setWidth(1);
                core.run(1);
                due.same("n of " + code, core.fetching(), n);
                core.run(3);
                due.same("never wrong", core.wrong(), 0);
            }
        }
    }

    @Holds(promise = 37, words = "for all others, the next place.")
    static void guessesOfOthers() {
        for (int code : new int[] {0, 1, 2, 3, 4, 5, 6, 7, 8, 9, 10, 11, 19, 20}) {
            Reorderium core = Due.program(Due.i(code, 1, 0, 0, 5), Due.nothing(), Due.nothing(), Due.nothing());
            core.setWidth(4);
            core.run(1);
            due.same("code " + code, core.fetching() + " " + core.fetched(), "4 4");
        }
    }

    @Holds(promise = 26, words = "The map tells for each register an inner one, at first that with the same number")
    static void mapAtFirst() {
        Reorderium core = new Reorderium();
        for (int r = 0; r < 8; r++) {
            due.same("register " + r, core.inner(r) + " " + core.innerAnew(r), r + " " + r);
        }
        core.setInner(10);
        due.same("with 10", core.inner(0) + " " + core.inner(7), "0 7");
    }

    @Holds(promise = 38, words = "A 15 puts its next place onto the stack of returns, which has at most 4; "
            + "the lowest one is lost if there would be more.")
    static void fullStackOfReturns() {
        // Five calls that go two places on, each with a return behind it, and one more return.
        Reorderium core = new Reorderium();
        for (int call = 1; call <= 5; call++) {
            core.add(15, call, 0, 0, 2 * call);
            core.add(16, 0, call - 1, 0, 0);
        }
        core.add(16, 0, 5, 0, 0);
        core.setWidth(1);
        String[] stacks = {"1", "3 1", "5 3 1", "7 5 3 1", "9 7 5 3", "7 5 3", "5 3", "3", ""};
        for (String stack : stacks) {
            core.run(1);
            due.same("the stack", Due.returns(core), stack);
        }
        due.same("the lowest one that was left", core.fetching(), 3);
        core.run(1);
        due.same("1 was lost: the next place", core.fetching() + " " + core.wrong(), "4 0");
    }

    @Holds(promise = 32, words = "At most as many fetched instructions as the width tells are renamed")
    static void renamesTheWidth() {
        for (int width = 1; width <= 4; width++) {
            Reorderium core = Due.program(Due.i(5, 1, 2, 2, 0), Due.i(19, 0, 0, 0, 0));
            for (int i = 0; i < 30; i++) {
                core.add(0, 0, 0, 0, 0);
            }
            core.setRegister(2, 1);
            core.setWidth(width);
            core.setBuffer(16);
            core.run(10);
            due.same("the line is full by " + width, core.fetched(), 2 * width);
            due.same("the 19 has retired, so many are renamed by " + width, core.inBuffer(), width);
            core.run(1);
            due.same("so many retire, and so many are renamed by " + width, core.inBuffer() + " " + core.ends(),
                    width + " " + (2 + width));
        }
    }

    @Holds(promise = 32, words = "until one cannot be: if the buffer is full")
    static void fullBuffer() {
        for (int most = 4; most <= 16; most++) {
            Reorderium core = behindSlow(30, Due.nothing());
            core.setBuffer(most);
            core.setWidth(4);
            core.run(5);
            due.same("the buffer of " + most, core.inBuffer(), most);
            core.run(3);
            due.same("it stays full", core.inBuffer() + " " + core.fetched(), most + " 8");
            core.run(1);
            due.same("four have retired, four are renamed", core.inBuffer() + " " + core.ends(), most + " 4");
        }
    }

    @Holds(promise = 30, words = "if it has a d, that is, for the codes 1 to 9 and 15, and no inner register is free")
    static void noInnerFree() {
        for (int code = 0; code <= 20; code++) {
            Reorderium core = Due.program(Due.i(5, 1, 2, 2, 0), Due.i(5, 3, 2, 2, 0), Due.i(code, 4, 6, 2, 3),
                    Due.nothing(), Due.nothing());
            core.setRegister(2, 1);
            core.setRegister(6, 3);
            core.setInner(10);
            core.setWidth(4);
            core.run(4);
            boolean hasD = code >= 1 && code <= 9 || code == 15;
            due.same("none is free", core.free(), 0);
            due.same("code " + code + " is renamed", core.inBuffer() > 2, !hasD && code != 19);
            core.run(5);
            due.same("the first one has retired; code " + code + " is renamed", core.inBuffer() > 1, code != 19);
            due.same("free for code " + code, core.free(), hasD ? 0 : 1);
        }
    }

    @Holds(promise = 35, words = "if it is one of the codes 1 to 13, 16 and 17, and the queue is full")
    static void fullQueue() {
        for (int code = 0; code <= 20; code++) {
            Reorderium core = Due.program(Due.i(5, 1, 2, 2, 0), Due.i(2, 3, 1, 1, 0), Due.i(2, 4, 1, 1, 0),
                    Due.nothing(), Due.i(code, 5, 1, 1, 5), Due.nothing());
            core.setRegister(2, 1);
            core.setQueue(2);
            core.run(5);
            boolean isQueued = code >= 1 && code <= 13 || code == 16 || code == 17;
            due.same("the queue is full", core.inQueue(), 2);
            due.same("code " + code + " is renamed", core.inBuffer() > 4, !isQueued && code != 19);
        }
    }

    @Holds(promise = 35, words = "and the queue is full")
    static void fullQueues() {
        for (int most = 2; most <= 8; most++) {
            Reorderium core = behindSlow(20, Due.i(13, 0, 1, 1, 40));
            core.setQueue(most);
            core.setWidth(4);
            core.setBuffer(16);
            core.run(8);
            due.same("the queue of " + most, core.inQueue() + " " + core.inBuffer(), most + " " + (most + 1));
            core.run(1);
            due.same("two begin, two are renamed", core.inQueue() + " " + core.inBuffer(), most + " " + (most + 2));
        }
    }

    @Holds(promise = 35, words = "and the queue is full")
    static void fullQueueFromTheFirst() {
        for (int most = 2; most <= 4; most++) {
            Reorderium core = Due.program(Due.i(1, 1, 0, 0, 0), Due.i(1, 2, 0, 0, 0), Due.i(1, 3, 0, 0, 0),
                    Due.i(1, 4, 0, 0, 0), Due.nothing());
            core.setQueue(most);
            core.setWidth(4);
            core.run(1);
            due.same("none is renamed", core.inQueue(), 0);
            core.run(1);
            due.same("of four, " + most, core.inQueue() + " " + core.inBuffer(), most + " " + most);
        }
    }

    @Holds(promise = 32, words = "if it is 19 or 21, and the buffer is not empty")
    static void aloneIntoEmptyBuffer() {
        for (int code : new int[] {19, 21}) {
            Reorderium core = Due.program(Due.nothing(), Due.i(code, 0, 0, 0, 0), Due.stop());
            core.setWidth(4);
            core.run(2);
            due.same("the one ahead of " + code, Due.buffer(core), "0e");
            core.run(1);
            due.same(code + " in the cycle in which the buffer is empty", Due.buffer(core), "1e");
            Reorderium first = Due.program(Due.i(code, 0, 0, 0, 0), Due.nothing());
            first.run(2);
            due.same(code + " into an empty buffer", Due.buffer(first), "0e");
        }
    }

    @Holds(promise = 32, words = "or if there is a 19 or 21 in the buffer.")
    static void nothingBehindAlone() {
        for (int code = 0; code <= 20; code++) {
            Reorderium core = Due.program(Due.i(19, 0, 0, 0, 0), Due.i(code, 1, 2, 2, 2), Due.stop());
            core.setWidth(4);
            core.run(2);
            due.same("only the 19 ahead of " + code, Due.buffer(core), "0e");
            core.run(1);
            due.same("the next one is renamed", core.bufferAt(0), 1);
        }
        Reorderium back = Due.program(Due.i(21, 0, 0, 0, 0), Due.nothing());
        back.setHandlers(0, -1);
        back.setWidth(4);
        back.run(2);
        due.same("only the 21", Due.buffer(back) + " " + back.fetched(), "0e 0");
    }

    @Holds(promise = 26, words = "It looks up the inner registers of a and b in the map; then d gets the first one of "
            + "the free line, which is not ready, and the map tells this from then on.")
    static void givesTheFirst() {
        Reorderium core = Due.program(Due.i(2, 1, 1, 1, 0), Due.i(2, 1, 1, 1, 0), Due.stop());
        core.setRegister(1, 5);
        core.run(2);
        due.same("the map", core.inner(1), 9);
        due.same("free line", Due.freeLine(core), "10 11 12 13 14 15");
        due.same("not ready", core.isReady(8) || core.isReady(9), false);
        due.same("the old one", core.isReady(1), true);
        Due.runOut(core);
        due.same("d that is a and b, too", core.register(1), 20);
        due.same("life of the second", Due.life(core, 1), "1 2 4 5 5");
    }

    @Holds(promise = 34, words = "all others have ended at once, 15 with its d ready, which is its next place.")
    static void endedAtOnce() {
        for (int code : new int[] {0, 14, 15, 18, 19, 20, 21}) {
            Reorderium core = Due.program(Due.i(code, 1, 0, 0, 1), Due.nothing());
            core.setWidth(1);
            core.run(2);
            due.same("code " + code, Due.buffer(core) + " " + core.inQueue(), "0e 0");
            due.same("given by " + code, core.inner(1), code == 15 ? 8 : 1);
            due.same("ready", core.isReady(8), code == 15);
        }
        Reorderium call = Due.program(Due.i(15, 1, 0, 0, 1), Due.i(2, 2, 1, 1, 0), Due.stop());
        Due.runOut(call);
        due.same("its next place is ready for others", call.register(2) + " " + call.life(1, 2), "2 3");
    }

    private static void refusesArguments(String what, int many, BiConsumer<Reorderium, Integer> call) {
        refuses(ARGUMENT, what, many, call);
    }

    private static void refuses(Class<? extends RuntimeException> kind, String what, int many,
            BiConsumer<Reorderium, Integer> call) {
        Reorderium core = Due.program(Due.i(1, 1, 0, 0, 5), Due.stop());
        for (int cycles = 0; cycles < 2; cycles++) {
            for (int bad : new int[] {-1, many, MIN, MAX}) {
                due.raises(what + " of " + bad, kind, () -> call.accept(core, bad));
            }
            call.accept(core, 0);
            call.accept(core, many - 1);
            core.run(2);
        }
    }

    @Holds(promise = 26, words = "Throws IllegalArgumentException if there is no such register")
    static void innerOfNoRegister() {
        refusesArguments("inner", 8, Reorderium::inner);
    }

    @Holds(promise = 27, words = "Throws IllegalArgumentException if there is no such register")
    static void innerAnewOfNoRegister() {
        refusesArguments("innerAnew", 8, Reorderium::innerAnew);
    }

    @Holds(promise = 27, words = "Returns the same, found from what has retired and from the buffer.")
    static void innerAnewAtEdges() {
        Reorderium core = Due.program(Due.i(1, 1, 0, 0, 5), Due.i(1, 1, 0, 0, 6), Due.i(1, 1, 0, 0, 7), Due.stop());
        String told = "";
        for (int cycle = 0; cycle < 6 && !core.hasStopped(); cycle++) {
            told += core.inner(1) + "=" + core.innerAnew(1) + " ";
            core.run(1);
        }
        due.same("with none, with some, and with all retired", told + core.innerAnew(1), "1=1 1=1 9=9 10=10 10=10 10");
    }

    @Holds(promise = 27, words = "Returns the same, found from what has retired and from the buffer.")
    static void innerAnewOfOthers() {
        Reorderium core = Due.program(Due.i(1, 0, 0, 0, 5), Due.i(1, 7, 0, 0, 6), Due.i(10, 7, 0, 0, 0),
                Due.i(12, 0, 0, 1, 0), Due.i(15, 3, 0, 0, 5), Due.nothing());
        core.setWidth(4);
        core.run(3);
        for (int r = 0; r < 8; r++) {
            int given = r == 0 ? 8 : r == 7 ? 9 : r == 3 ? 10 : r;
            due.same("register " + r, core.inner(r) + " " + core.innerAnew(r), given + " " + given);
        }
    }

    @Holds(promise = 28, words = "Throws IndexOutOfBoundsException if there is no such inner register")
    static void stateOfNone() {
        refuses(INDEX, "stateOf", 16, Reorderium::stateOf);
        Reorderium core = new Reorderium();
        core.setInner(10);
        due.same("the last one of 10", core.stateOf(9), 'f');
        due.raises("one more than 10", INDEX, () -> core.stateOf(10));
        core.setInner(24);
        due.same("the last one of 24", core.stateOf(23), 'f');
        due.raises("one more than 24", INDEX, () -> core.stateOf(24));
    }

    @Holds(promise = 28, words = "Returns 'f' if it is free, 'm' if the map tells it, 'w' if it waits to be free.")
    static void states() {
        Reorderium first = new Reorderium();
        for (int i = 0; i < 16; i++) {
            due.same("at first " + i, first.stateOf(i), i < 8 ? 'm' : 'f');
        }
        Reorderium core = Due.program(Due.i(5, 1, 2, 2, 0), Due.i(1, 1, 0, 0, 6), Due.stop());
        core.setRegister(2, 1);
        due.same("at first", "" + core.stateOf(1) + core.stateOf(8) + core.stateOf(9), "mff");
        core.run(2);
        due.same("both are given", "" + core.stateOf(1) + core.stateOf(8) + core.stateOf(9), "wwm");
        core.run(6);
        due.same("none has retired", "" + core.stateOf(1) + core.stateOf(8) + core.stateOf(9), "wwm");
        core.run(1);
        due.same("both have retired", "" + core.stateOf(1) + core.stateOf(8) + core.stateOf(9), "ffm");
    }

    @Holds(promise = 29, words = "Throws IndexOutOfBoundsException if there is no such inner register")
    static void readyOfNone() {
        refuses(INDEX, "isReady", 16, Reorderium::isReady);
        Reorderium core = new Reorderium();
        core.setInner(10);
        due.same("the last one of 10", core.isReady(9), false);
        due.raises("one more than 10", INDEX, () -> core.isReady(10));
        core.setInner(24);
        due.same("the last one of 24", core.isReady(23), false);
        due.raises("one more than 24", INDEX, () -> core.isReady(24));
    }

    @Holds(promise = 29, words = "At first, those that the map tells are; one that becomes free stays as it is until it "
            + "is given anew.")
    static void readyUntilGivenAnew() {
        Reorderium core = new Reorderium();
        due.same("at first", core.isReady(0) && core.isReady(7) && !core.isReady(8) && !core.isReady(15), true);
        Reorderium anew = Due.program(Due.i(1, 1, 0, 0, 5), Due.i(1, 1, 0, 0, 6), Due.i(1, 1, 0, 0, 7), Due.stop());
        anew.setInner(10);
        anew.run(4);
        due.same("1 and 8 have become free; 1 is given anew", Due.freeLine(anew) + " " + anew.inner(1), "8 1");
        due.same("so 1 is not ready, and 8 is", anew.isReady(1) + " " + anew.isReady(8), "false true");
        Reorderium wrong = Due.program(Due.i(13, 0, 0, 1, 3), Due.i(5, 2, 1, 1, 0), Due.i(15, 3, 0, 0, 3), Due.nothing());
        wrong.setRegister(1, 1);
        wrong.run(3);
        due.same("the 15 is ready, the 5 is not", wrong.isReady(8) + " " + wrong.isReady(9), "false true");
        wrong.run(1);
        due.same("both are thrown away", wrong.stateOf(8) + " " + wrong.stateOf(9), "f f");
        due.same("they stay as they were", wrong.isReady(8) + " " + wrong.isReady(9), "false true");
    }

    @Holds(promise = 29, words = "one that becomes free stays as it is until it is given anew.")
    static void theFirstOneGivenAnew() {
        Reorderium core = Due.program(Due.i(1, 0, 0, 0, 5), Due.i(1, 0, 0, 0, 6), Due.i(5, 0, 0, 0, 0), Due.stop());
        core.setInner(10);
        core.run(4);
        due.same("0 is free, then given", core.inner(0) + " " + core.stateOf(0), "0 m");
        due.same("it is not ready", core.isReady(0), false);
        Due.runOut(core);
        due.same("it was written", core.isReady(0) + " " + core.inner(0) + " " + core.register(0), "true 0 1");
        due.same("free line", Due.freeLine(core), "8 9");
    }

    @Holds(promise = 31, words = "Throws IndexOutOfBoundsException if there is none")
    static void noneInFreeLine() {
        Reorderium core = Due.program(Due.i(5, 1, 2, 2, 0), Due.i(5, 3, 2, 2, 0), Due.stop());
        core.setRegister(2, 1);
        core.setInner(10);
        for (int bad : new int[] {-1, 2, MIN, MAX}) {
            due.raises("freeAt of " + bad + " when there are 2", INDEX, () -> core.freeAt(bad));
        }
        due.same("both", core.freeAt(0) + " " + core.freeAt(1), "8 9");
        core.run(2);
        due.same("none is free", core.free(), 0);
        for (int bad : new int[] {-1, 0, 1, MIN, MAX}) {
            due.raises("freeAt of " + bad + " when there is none", INDEX, () -> core.freeAt(bad));
        }
        Due.runOut(core);
        due.same("both are free again", Due.freeLine(core), "1 3");
    }

    @Holds(promise = 33, words = "Throws IndexOutOfBoundsException if there is none")
    static void noneInBuffer() {
        refusesBuffer("bufferAt", Reorderium::bufferAt);
    }

    @Holds(promise = 34, words = "Throws IndexOutOfBoundsException if there is none")
    static void noStageInBuffer() {
        refusesBuffer("stageAt", Reorderium::stageAt);
    }

    private static void refusesBuffer(String what, BiConsumer<Reorderium, Integer> call) {
        Reorderium core = behindSlow(20, Due.nothing());
        core.setBuffer(4);
        due.raises(what + " of 0 when it is empty", INDEX, () -> call.accept(core, 0));
        due.raises(what + " of -1 when it is empty", INDEX, () -> call.accept(core, -1));
        core.run(1);
        due.raises(what + " of 0 when only some are fetched", INDEX, () -> call.accept(core, 0));
        core.run(5);
        for (int bad : new int[] {-1, 4, MIN, MAX}) {
            due.raises(what + " of " + bad + " when it is full", INDEX, () -> call.accept(core, bad));
        }
        due.same("full", Due.buffer(core), "0x 1e 2e 3e");
        call.accept(core, 0);
        call.accept(core, 3);
    }

    @Holds(promise = 37, words = "Throws NoSuchElementException if nothing is fetched, behind a 18 or 21 that was fetched, "
            + "or because the core has stopped by a trap")
    static void nothingIsFetched() {
        for (int code : new int[] {18, 21}) {
            Reorderium core = Due.program(Due.i(code, 0, 0, 0, 0), Due.nothing());
            core.setHandlers(-1, 0);
            due.same("ahead of " + code, core.fetching(), 0);
            core.run(1);
            due.raises("behind " + code, ELEMENT, core::fetching);
            core.run(2);
            due.same("stopped", core.hasStopped(), true);
            due.raises("stopped by " + code, ELEMENT, core::fetching);
        }
        Reorderium trap = Due.program(Due.i(20, 0, 0, 0, 0), Due.nothing());
        trap.run(2);
        due.same("ahead of the trap", trap.fetching(), 2);
        trap.run(1);
        due.raises("stopped by a trap", ELEMENT, trap::fetching);
        Reorderium full = behindSlow(30, Due.nothing());
        full.run(8);
        due.same("not because the line is full", full.fetching() > 0, true);
        Reorderium none = new Reorderium();
        none.run(8);
        due.same("not because nothing is there", none.fetching(), 0);
    }

    @Holds(promise = 39, words = "Throws IndexOutOfBoundsException if there is none")
    static void noReturn() {
        Reorderium core = new Reorderium();
        for (int place = 0; place < 5; place++) {
            core.add(15, 1, 0, 0, place + 1);
        }
        core.setWidth(1);
        for (int size = 0; size <= 5; size++) {
            int many = Math.min(4, size);
            due.same("size", core.returns(), many);
            for (int bad : new int[] {-1, many, 4, MIN, MAX}) {
                due.raises("returnAt of " + bad + " when there are " + many, INDEX, () -> core.returnAt(bad));
            }
            core.run(1);
        }
        due.same("from the top", core.returnAt(0) + " " + core.returnAt(3), "5 2");
    }

    @Holds(promise = 40, words = "Throws IllegalArgumentException if there is none")
    static void noCounter() {
        refusesArguments("counter", 16, Reorderium::counter);
    }
}
