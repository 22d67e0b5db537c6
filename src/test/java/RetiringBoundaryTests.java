import java.util.NoSuchElementException;

/** The edges of going wrong, retiring, losses and counts, promises 44 to 52 and others: each test holds its words. */
final class RetiringBoundaryTests {
    private static final Class<IllegalArgumentException> ARGUMENT = IllegalArgumentException.class;
    private static final Class<NoSuchElementException> ELEMENT = NoSuchElementException.class;
    private static final Due due = new Due();

    public static void main(String[] args) {
        due.runAll(RetiringBoundaryTests.class);
        due.end();
    }

    /** Width 4, with a great buffer, a great queue, and 24 inner registers. */
    private static Reorderium wide(int[]... instructions) {
        Reorderium core = Due.program(instructions);
        core.setWidth(4);
        core.setBuffer(16);
        core.setQueue(8);
        core.setInner(24);
        return core;
    }

    @Holds(promise = 47, words = "If an instruction was guessed wrong, all younger ones are thrown away, "
            + "and fetching goes on at the place to which it goes")
    static void youngerOnesAreThrownAway() {
        Reorderium core = wide(Due.i(5, 1, 6, 6, 0), Due.i(12, 0, 0, 0, 9), Due.i(1, 2, 0, 0, 5), Due.nothing(),
                Due.i(15, 3, 0, 0, 5), Due.i(9, 4, 0, 0, 0), Due.nothing(), Due.nothing(), Due.nothing(), Due.stop());
        core.setRegister(6, 1);
        core.run(3);
        due.same("ahead of it", Due.buffer(core) + " " + core.fetched(), "0x 1x 2x 3e 4e 5q 6e 7e 2");
        core.run(1);
        due.same("the older one stays", Due.buffer(core), "0x 1e");
        due.same("out of the buffer", core.thrownAway(), 6);
        due.same("fetching is at 9, where the stop is fetched", core.fetched(), 1);
        due.same("the queue", core.inQueue(), 0);
        Due.runOut(core);
        due.same("ends", Due.ends(core), "0@0 0@1 0@9");
        Reorderium none = wide(Due.i(12, 0, 0, 0, 0));
        none.run(4);
        due.same("when there is none", none.thrownAway() + " " + none.wrong() + " " + none.ends(), "0 1 1");
    }

    @Holds(promise = 36, words = "What is thrown away leaves the line of fetched ones, the buffer, the queue and its unit")
    static void leavesAll() {
        // The 5 at 2 is in its delay, and the one at 3 in the queue, when the 12 goes wrong.
        Reorderium core = wide(Due.i(12, 0, 0, 0, 8), Due.i(5, 1, 6, 6, 0), Due.i(5, 2, 6, 6, 0), Due.i(9, 3, 0, 0, 0),
                Due.nothing(), Due.nothing(), Due.nothing(), Due.nothing(), Due.i(5, 4, 6, 6, 0), Due.i(9, 5, 0, 0, 0), Due.stop());
        core.setRegister(6, 1);
        core.run(3);
        due.same("ahead of it", Due.buffer(core) + ", " + core.inQueue() + " " + core.fetched(), "0x 1x 2q 3m 4e 5e 6e 7e, 1 3");
        core.run(1);
        due.same("behind it", Due.buffer(core) + ", " + core.inQueue() + " " + core.fetched(), ", 0 3");
        core.run(2);
        due.same("the unit of the 5 is free", Due.buffer(core), "8x 9m 10e");
        due.same("the line that was asked for is waited for", core.asked(), 1);
        Due.runOut(core);
        due.same("lives", Due.life(core, 1) + ", " + Due.life(core, 2), "4 5 6 12 12, 4 5 6 9 12");
        due.same("hits", core.hits(), 1000L);
    }

    @Holds(promise = 38, words = "the stack of returns is as it was when the instruction had just been fetched")
    static void stackBehindWrong() {
        // The fifth and the sixth call, behind the branch, lose the lowest ones; then both are there again.
        Reorderium core = new Reorderium();
        for (int place = 0; place < 4; place++) {
            core.add(15, 1, 0, 0, place + 1);
        }
        core.add(12, 0, 0, 0, 8);
        core.add(15, 1, 0, 0, 6);
        core.add(15, 1, 0, 0, 7);
        core.add(16, 0, 0, 0, 0);
        core.add(18, 0, 0, 0, 0);
        core.setWidth(4);
        core.run(2);
        due.same("a full stack, two of which are lost, and one is taken", Due.returns(core), "6 4 3");
        core.run(3);
        due.same("as it was", Due.returns(core) + " " + core.wrong(), "4 3 2 1 1");

        // A 16 that takes the only return goes wrong: the stack stays empty.
        Reorderium itself = wide(Due.i(15, 1, 0, 0, 1), Due.i(16, 0, 6, 0, 0), Due.i(15, 1, 0, 0, 3), Due.nothing(),
                Due.stop());
        itself.setRegister(6, 4);
        itself.run(4);
        due.same("it had been fetched when it was empty", itself.returns() + " " + itself.wrong(), "0 1");
    }

    /** The store at 1 knows its address, 5, late; the loads at 2 and 3 go ahead of it. */
    private static Reorderium early(int[] store, int[] first, int[] second) {
        Reorderium core = wide(Due.i(4, 5, 6, 6, 0), store, first, second, Due.stop());
        core.setRegister(6, 1);
        core.setRegister(7, 3);
        core.setTime(1, 1);
        core.setWord(5, 8);
        return core;
    }

    @Holds(promise = 46, words = "If a 10 or 11 ends without a trap, and there is a younger 9 with the same address that has "
            + "begun, and that does not take the value of a store younger than this one, the oldest of these 9 goes wrong")
    static void oldestLoadGoesWrong() {
        for (int code = 10; code <= 11; code++) {
            Reorderium core = early(Due.i(code, 0, 5, 7, 4), Due.i(9, 1, 6, 0, 4), Due.i(9, 2, 6, 0, 4));
            Due.runOut(core);
            due.same("two by " + code, core.early() + " " + core.isMarked(2) + " " + core.isMarked(3), "1 true false");
            due.same("the values", core.register(1) + " " + core.register(2), "3 3");
            Reorderium second = early(Due.i(code, 0, 5, 7, 4), Due.i(9, 1, 6, 0, 5), Due.i(9, 2, 6, 0, 4));
            Due.runOut(second);
            due.same("the second one by " + code, second.early() + " " + second.isMarked(2) + " " + second.isMarked(3),
                    "1 false true");
            Reorderium other = early(Due.i(code, 0, 5, 7, 5), Due.i(9, 1, 6, 0, 4), Due.i(9, 2, 6, 0, 6));
            Due.runOut(other);
            due.same("addresses beside it by " + code, other.early() + " " + other.register(1), "0 8");
            Reorderium trap = early(Due.i(code, 0, 5, 7, 63), Due.i(9, 1, 6, 0, 4), Due.i(9, 2, 6, 0, 64));
            Due.runOut(trap);
            due.same("a trap by " + code, trap.early() + " " + Due.ends(trap), "0 0@0 2@1");
        }
    }

    @Holds(promise = 46, words = "a younger 9 with the same address that has begun")
    static void loadsThatHaveNotBegun() {
        // The loads need register 5, too, so they have not begun when the store ends.
        Reorderium core = early(Due.i(10, 0, 5, 7, 4), Due.i(9, 1, 5, 0, 4), Due.i(9, 2, 5, 0, 4));
        Due.runOut(core);
        due.same("none goes wrong", core.early() + " " + core.register(1) + " " + core.register(2), "0 3 3");
        Reorderium older = wide(Due.i(9, 1, 6, 0, 4), Due.i(10, 0, 6, 7, 4), Due.stop());
        older.setRegister(6, 1);
        Due.runOut(older);
        due.same("nor an older one", older.early(), 0);
        Reorderium waits = early(Due.i(10, 0, 5, 7, 4), Due.i(9, 1, 6, 0, 4), Due.nothing());
        waits.setTime(1, 30);
        waits.run(6);
        due.same("one that waits for its line has begun", Due.buffer(waits).substring(0, 5), "1x 2m");
        waits.run(1);
        due.same("it goes wrong", waits.early() + " " + waits.fetched(), "1 3");
    }

    @Holds(promise = 46, words = "that does not take the value of a store younger than this one")
    static void loadsWithYoungerValues() {
        Reorderium younger = wide(Due.i(4, 5, 6, 6, 0), Due.i(10, 0, 5, 7, 4), Due.i(10, 0, 6, 6, 4), Due.i(9, 1, 6, 0, 4),
                Due.stop());
        younger.setRegister(6, 1);
        younger.setRegister(7, 3);
        Due.runOut(younger);
        due.same("of a younger one", younger.early() + " " + younger.taken() + " " + younger.register(1), "0 1 1");
        Reorderium older = wide(Due.i(4, 5, 6, 6, 0), Due.i(10, 0, 6, 6, 4), Due.i(10, 0, 5, 7, 4), Due.i(9, 1, 6, 0, 4),
                Due.stop());
        older.setRegister(6, 1);
        older.setRegister(7, 3);
        Due.runOut(older);
        due.same("of an older one", older.early() + " " + older.taken() + " " + older.register(1), "1 1 3");
    }

    @Holds(promise = 46, words = "it and all younger ones are thrown away, fetching goes on at its place, the stack of "
            + "returns is as it was ahead of its fetching")
    static void stackAheadOfLoad() {
        Reorderium core = wide(Due.i(4, 5, 6, 6, 0), Due.i(10, 0, 5, 7, 4), Due.i(15, 3, 0, 0, 3), Due.i(9, 1, 6, 0, 4),
                Due.i(15, 4, 0, 0, 5), Due.i(16, 0, 6, 0, 0));
        core.setRegister(6, 1);
        core.setTime(1, 30);
        core.run(6);
        due.same("all have been fetched", core.fetched() + core.inBuffer() > 5, true);
        core.run(1);
        due.same("early", core.early(), 1);
        due.same("the load, a call, and a return are fetched again", core.fetched() + " " + Due.returns(core), "3 3");
        Reorderium full = new Reorderium();
        full.add(14, 0, 0, 0, 4);
        for (int place = 1; place < 4; place++) {
            full.add(18, 0, 0, 0, 0);
        }
        for (int[] i : new int[][] {{15, 1, 0, 0, 5}, {15, 1, 0, 0, 6}, {15, 1, 0, 0, 7}, {15, 1, 0, 0, 8}, {4, 5, 6, 6, 0},
            {10, 0, 5, 7, 4}, {9, 2, 6, 0, 4}, {15, 1, 0, 0, 12}, {15, 1, 0, 0, 13}, {18, 0, 0, 0, 0}}) {
            full.add(i[0], i[1], i[2], i[3], i[4]);
        }
        full.setRegister(6, 1);
        full.setTime(1, 30);
        full.setWidth(1);
        full.setBuffer(16);
        full.run(11);
        due.same("two calls behind the load", Due.returns(full), "13 12 8 7");
        full.run(1);
        due.same("early", full.early(), 1);
        due.same("a full stack is as it was", Due.returns(full), "8 7 6 5");
    }

    @Holds(promise = 31, words = "its inner registers go to the end of the free line, those of the youngest instruction first.")
    static void youngestFirst() {
        Reorderium core = wide(Due.i(12, 0, 0, 0, 5), Due.i(1, 1, 0, 0, 5), Due.i(1, 2, 0, 0, 6), Due.i(15, 1, 0, 0, 4),
                Due.stop(), Due.stop());
        core.setInner(11);
        core.run(2);
        due.same("all are given", core.free() + " " + core.inner(1) + " " + core.inner(2), "0 10 9");
        core.run(2);
        due.same("they are free again", Due.freeLine(core), "10 9 8");
        Reorderium trap = wide(Due.i(5, 1, 6, 0, 0), Due.i(1, 2, 0, 0, 5), Due.nothing(), Due.i(1, 3, 0, 0, 5));
        trap.setInner(12);
        trap.run(9);
        due.same("that of the trap is the last one", Due.freeLine(trap), "11 10 9 8");
        Reorderium asked = wide(Due.i(5, 1, 6, 0, 0), Due.i(1, 2, 0, 0, 5), Due.i(1, 3, 0, 0, 5));
        asked.setHandlers(0, 0);
        asked.setInner(12);
        asked.run(4);
        asked.interrupt();
        asked.run(1);
        due.same("by an interrupt", Due.freeLine(asked), "11 10 9 8");
        due.same("isWhole", core.isWhole() && trap.isWhole() && asked.isWhole(), true);
    }

    @Holds(promise = 26, words = "the map is as it was ahead of the oldest instruction that is thrown away")
    static void mapAhead() {
        Reorderium core = wide(Due.i(5, 3, 6, 6, 0), Due.i(1, 1, 0, 0, 5), Due.i(12, 0, 0, 0, 5), Due.i(1, 1, 0, 0, 6),
                Due.i(1, 1, 0, 0, 7), Due.stop());
        core.setRegister(6, 1);
        core.run(3);
        due.same("all are given", core.inner(1) + " " + core.innerAnew(1), "11 11");
        core.run(1);
        due.same("that of the older one in the buffer", core.inner(1) + " " + core.innerAnew(1), "9 9");
        Reorderium all = Due.program(Due.i(5, 1, 6, 6, 0), Due.i(1, 1, 0, 0, 6), Due.stop());
        all.setHandlers(2, 2);
        all.run(3);
        all.interrupt();
        all.run(1);
        due.same("what has retired", all.inner(1) + " " + all.innerAnew(1), "1 1");
    }

    @Holds(promise = 11, words = "If an interrupt is asked for, nothing is handled, and there is a handler of interrupts, it is "
            + "taken")
    static void interruptsThatAreTaken() {
        Reorderium none = Due.program(Due.nothing(), Due.i(14, 0, 0, 0, 0));
        none.setHandlers(0, -1);
        none.interrupt();
        none.run(30);
        due.same("without a handler", none.lost('i') + " " + none.interrupt(), "0 true");
        Reorderium unasked = Due.program(Due.nothing(), Due.i(14, 0, 0, 0, 0));
        unasked.setHandlers(0, 0);
        unasked.run(30);
        due.same("without being asked for", unasked.lost('i'), 0);
        Reorderium handled = Due.program(Due.i(20, 0, 0, 0, 0), Due.stop(), Due.i(5, 1, 6, 6, 0), Due.i(21, 0, 0, 0, 0));
        handled.setRegister(6, 1);
        handled.setHandlers(2, 2);
        handled.run(3);
        handled.interrupt();
        handled.run(8);
        due.same("not while a trap is handled", Due.ends(handled), "4@0 0@2");
        handled.run(1);
        due.same("nor in the cycle of the 21", Due.ends(handled), "4@0 0@2 0@3");
        handled.run(1);
        due.same("but in the next one", Due.ends(handled), "4@0 0@2 0@3 9@1");
    }

    @Holds(promise = 11, words = "all instructions are thrown away, fetching goes on at the handler, the stack of returns is "
            + "emptied, and nothing retires in this cycle.")
    static void interruptsThrowAllAway() {
        Reorderium core = wide(Due.i(15, 1, 0, 0, 1), Due.i(15, 2, 0, 0, 2), Due.nothing(), Due.stop(), Due.nothing(),
                Due.nothing());
        core.setHandlers(-1, 4);
        core.run(2);
        due.same("four have ended", Due.buffer(core) + ", " + Due.returns(core), "0e 1e 2e 3e, 2 1");
        core.interrupt();
        due.same("one end", core.run(1), 1);
        due.same("all are gone", core.inBuffer() + " " + core.returns() + " " + core.thrownAway(), "0 0 4");
        due.same("the handler is fetched", core.fetched() + " " + core.fetching(), "2 6");
        due.same("the end", Due.ends(core) + " " + core.kept(), "9@0 0");
    }

    @Holds(promise = 12, words = "Otherwise, at most as many instructions as the width tells retire, from the oldest one on, "
            + "as long as the oldest one has ended")
    static void retiresTheWidth() {
        for (int width = 1; width <= 4; width++) {
            Reorderium core = Due.program(Due.i(5, 1, 6, 6, 0));
            for (int i = 0; i < 20; i++) {
                core.add(0, 0, 0, 0, 0);
            }
            core.setRegister(6, 1);
            core.setWidth(width);
            core.setBuffer(16);
            due.same("none ahead of the oldest one", core.run(8), 0);
            due.same("the width", core.run(1), width);
            due.same("the width again", core.run(1), width);
        }
        Reorderium last = wide(Due.nothing(), Due.nothing(), Due.i(1, 1, 0, 0, 5), Due.nothing(), Due.stop());
        last.run(2);
        due.same("up to the one that has not ended", last.run(1), 2);
        due.same("then it and those behind it", last.run(1), 3);
    }

    @Holds(promise = 22, words = "for a 10 or 11 that does not trap, its b is ready. A store changes its word now.")
    static void storesRetire() {
        for (int code = 10; code <= 11; code++) {
            Reorderium core = wide(Due.i(5, 1, 6, 6, 0), Due.i(code, 0, 0, 1, 63), Due.stop());
            core.setRegister(6, 1);
            core.run(8);
            due.same("it has ended", Due.buffer(core) + " " + core.word(63), "0x 1e 2e 0");
            core.run(1);
            due.same("with its b, it retires in the same cycle", core.ends() + " " + core.word(63), "3 1");
            Reorderium trap = wide(Due.i(9, 1, 0, 0, 0), Due.i(code, 0, 0, 1, 64), Due.stop());
            Due.runOut(trap);
            due.same("one that traps", Due.ends(trap) + " " + Due.life(trap, 1), "0@0 2@1 1 2 4 5 9");
        }
    }

    @Holds(promise = 30, words = "The inner register that the map told for d ahead of the instruction goes to the end of the "
            + "free line.")
    static void freesTheOldOne() {
        Reorderium core = wide(Due.i(1, 1, 0, 0, 5), Due.i(1, 1, 0, 0, 6), Due.i(15, 2, 0, 0, 3), Due.stop());
        core.setInner(11);
        core.run(2);
        due.same("none is free", core.free(), 0);
        Due.runOut(core);
        due.same("those of the older ones", Due.freeLine(core), "1 8 2");
        due.same("the map", core.inner(1) + " " + core.inner(2), "9 10");
        Reorderium without = wide(Due.nothing(), Due.i(10, 1, 0, 0, 0), Due.i(12, 2, 0, 0, 3), Due.stop());
        Due.runOut(without);
        due.same("without a d, none", without.free() + " " + without.freeAt(0), "16 8");
    }

    @Holds(promise = 40, words = "The counter of a 12 or 13 increases by 1, up to 3, if what it asks is so, and decreases by 1, "
            + "down to 0, if it is not")
    static void countersHaveEnds() {
        for (int code = 12; code <= 13; code++) {
            Reorderium so = Due.program(Due.i(code, 0, 1, 2, 0));
            so.setRegister(2, code == 12 ? 0 : 1);
            Reorderium not = Due.program(Due.i(code, 0, 2, 1, 0), Due.i(14, 0, 0, 0, 0));
            not.setRegister(2, 1);
            for (int times = 0; times < 6; times++) {
                due.same("so, " + times + " times", so.counter(0), Math.min(3, 1 + times));
                due.same("not so, " + times + " times", not.counter(0), Math.max(0, 1 - times));
                runToNextOfPlace0(so);
                runToNextOfPlace0(not);
            }
        }
        Reorderium next = Due.program(Due.i(12, 0, 0, 0, 1), Due.i(12, 0, 0, 7, 2), Due.stop());
        next.setRegister(7, 1);
        Due.runOut(next);
        due.same("by what is asked, not by where it goes", next.counter(0) + " " + next.counter(1), "2 0");
    }

    @Holds(promise = 40, words = "increases by 1, up to 3, if what it asks is so, and decreases by 1, down to 0, if it is not")
    static void countersGoUpAndDown() {
        // The 13 goes to the next place in any case; register 1 counts up, and is less than 3 three times.
        Reorderium core = Due.program(Due.i(13, 0, 1, 3, 1), Due.i(2, 1, 1, 2, 0), Due.i(14, 0, 0, 0, 0));
        core.setRegister(2, 1);
        core.setRegister(3, 3);
        StringBuilder seen = new StringBuilder();
        for (int times = 0; times < 8; times++) {
            seen.append(core.counter(0));
            runToNextOfPlace0(core);
        }
        due.same("the counter", seen.toString(), "12332100");
    }

    private static void runToNextOfPlace0(Reorderium core) {
        int before = endsOfPlace0(core);
        for (int cycles = 0; cycles < 20 && endsOfPlace0(core) == before; cycles++) {
            core.run(1);
        }
        due.same("one more", endsOfPlace0(core), before + 1);
    }

    private static int endsOfPlace0(Reorderium core) {
        int many = 0;
        for (int i = 0; i < core.ends(); i++) {
            many += core.placeAt(i) == 0 ? 1 : 0;
        }
        return many;
    }

    @Holds(promise = 37, words = "Behind a 21, nothing is handled, and fetching goes on at the kept place.")
    static void backToTheKeptPlace() {
        Reorderium core = Due.program(Due.i(14, 0, 0, 0, 63), Due.i(21, 0, 0, 0, 0));
        for (int place = 2; place < 63; place++) {
            core.add(18, 0, 0, 0, 0);
        }
        core.add(20, 0, 0, 0, 0);
        core.setHandlers(1, -1);
        core.run(5);
        due.raises("the 21 was fetched", ELEMENT, core::fetching);
        due.same("kept", core.kept(), 64);
        core.run(1);
        due.raises("nothing is handled", ELEMENT, core::kept);
        due.same("behind the last place", core.fetching() + " " + core.fetched(), "64 0");
        Reorderium calls = Due.program(Due.stop(), Due.i(15, 1, 0, 0, 2), Due.i(21, 0, 0, 0, 0));
        calls.setHandlers(-1, 1);
        calls.interrupt();
        calls.run(2);
        due.same("a call in the handler", Due.returns(calls), "2");
        calls.run(3);
        due.same("stays on the stack behind the 21", Due.ends(calls) + ", " + Due.returns(calls), "9@0 0@1 0@2, 2");
    }

    @Holds(promise = 14, words = "Behind an 18, the core has stopped.")
    static void stopsBehind() {
        Reorderium core = wide(Due.nothing(), Due.stop(), Due.nothing());
        core.run(2);
        due.same("ahead of it", core.hasStopped(), false);
        due.same("it retires with others", core.run(60), 2);
        due.same("behind it", core.hasStopped() + " " + core.cycle() + " " + core.inBuffer(), "true 3 0");
        Reorderium asked = wide(Due.stop());
        asked.setHandlers(-1, 0);
        asked.run(2);
        asked.interrupt();
        asked.run(1);
        due.same("not if an interrupt is taken ahead of it", asked.hasStopped(), false);
    }

    @Holds(promise = 16, words = "If the oldest one has ended and traps, it does not retire")
    static void trapsAreTaken() {
        Reorderium core = wide(Due.i(15, 1, 0, 0, 1), Due.i(5, 2, 0, 0, 0), Due.i(15, 3, 0, 0, 3), Due.stop(), Due.nothing(),
                Due.nothing());
        core.setHandlers(4, -1);
        core.run(8);
        due.same("not ahead of its ending", Due.ends(core) + ", " + Due.buffer(core), "0@0, 1x 2e 3e");
        core.run(1);
        due.same("it is the end, and all are thrown away", Due.ends(core) + ", " + Due.buffer(core), "0@0 1@1, ");
        due.same("the stack is emptied", core.returns(), 0);
        due.same("fetching goes on at the handler", core.fetched() + " " + core.fetching(), "2 6");
        due.same("thrown away, this one, too", core.thrownAway(), 3);
        due.same("no more retire in this cycle", core.lost('t'), 1);
        Reorderium younger = wide(Due.i(5, 1, 6, 6, 0), Due.i(20, 0, 0, 0, 0), Due.nothing());
        younger.setRegister(6, 1);
        younger.run(8);
        due.same("one that is not the oldest waits", younger.ends() + ", " + Due.buffer(younger), "0, 0x 1e 2e");
    }

    @Holds(promise = 14, words = "unless the machine stops, which stops the core, too, and no more retire in this cycle.")
    static void trapsStopTheCore() {
        Reorderium core = wide(Due.i(15, 1, 0, 0, 1), Due.i(20, 0, 0, 0, 0), Due.nothing(), Due.nothing());
        due.same("the trap is the last end", core.run(60), 2);
        due.same("stopped", core.hasStopped() + " " + core.cycle(), "true 3");
        due.same("nothing is left", core.inBuffer() + core.fetched() + core.returns() + core.inQueue(), 0);
        due.raises("nothing is fetched", ELEMENT, core::fetching);
        due.same("thrown away", core.thrownAway(), 3);
    }

    @Holds(promise = 44, words = "Throws IllegalArgumentException if there is no such reason")
    static void noSuchReason() {
        Reorderium core = Due.program(Due.stop());
        String reasons = "itfqxmbd";
        for (char reason = 0; reason < 300; reason++) {
            char r = reason;
            if (reasons.indexOf(reason) < 0) {
                due.raises("lost of " + (int) reason, ARGUMENT, () -> core.lost(r));
            } else {
                due.same("lost of " + reason, core.lost(reason), 0);
            }
        }
        due.raises("lost of the last char", ARGUMENT, () -> core.lost(Character.MAX_VALUE));
    }

    @Holds(promise = 44, words = "A cycle in which nothing retires is lost for one reason: 'i' an interrupt was taken, 't' a trap "
            + "was taken, 'f' the buffer is empty, 'q' the oldest instruction is in the queue, 'x' it is in a unit, 'm' it "
            + "waits for a line, 'b' it waits for the bus, 'd' it is a store whose b is not ready; by what is so when "
            + "retiring is done.")
    static void oneReason() {
        Reorderium core = Due.program(Due.i(1, 1, 0, 0, 5), Due.i(9, 2, 0, 0, 0), Due.i(20, 0, 0, 0, 0), Due.stop());
        core.setHandlers(3, 0);
        String[] losses = {"i0t0f1q0x0m0b0d0", "i0t0f2q0x0m0b0d0", "i0t0f2q1x0m0b0d0", "i0t0f2q1x0m0b0d0",
            "i0t0f2q1x0m1b0d0"};
        for (String loss : losses) {
            core.run(1);
            due.same("cycle " + core.cycle(), Due.losses(core), loss);
        }
        core.run(4);
        due.same("the load and the trap in one cycle: nothing more is lost", Due.losses(core) + " " + core.ends(),
                "i0t0f2q1x0m4b0d0 3");
        Reorderium trap = Due.program(Due.nothing(), Due.i(20, 0, 0, 0, 0), Due.stop());
        trap.setHandlers(2, 2);
        trap.setWidth(1);
        trap.run(4);
        due.same("a trap alone", Due.losses(trap) + " " + Due.ends(trap), "i0t1f2q0x0m0b0d0 0@0 4@1");
        Reorderium asked = Due.program(Due.nothing(), Due.stop());
        asked.setHandlers(1, 1);
        asked.interrupt();
        asked.run(1);
        due.same("an interrupt, with an empty buffer, too", Due.losses(asked), "i1t0f0q0x0m0b0d0");
    }

    @Holds(promise = 44, words = "'d' it is a store whose b is not ready")
    static void storesNeverWaitAlone() {
        Reorderium core = wide(Due.i(5, 1, 6, 6, 0), Due.i(10, 0, 0, 1, 0), Due.i(11, 0, 0, 1, 1), Due.stop());
        core.setRegister(6, 1);
        Due.runOut(core);
        due.same("what gives b is older, so it has retired: never", core.lost('d') + " " + core.lost('x'), "0 5");
    }

    @Holds(promise = 44, words = "'b' it waits for the bus")
    static void oldestNeverWaitsForTheBus() {
        Reorderium core = wide(Due.i(9, 1, 0, 0, 0), Due.i(9, 2, 0, 0, 1), Due.i(9, 3, 0, 0, 2), Due.i(9, 4, 0, 0, 3),
                Due.stop());
        core.setTime(0, 10);
        core.run(13);
        due.same("four end in a cycle, the two oldest write and retire", core.ends() + ", " + Due.buffer(core), "2, 2b 3b 4e");
        core.run(1);
        due.same("then the others: never", core.lost('b') + " " + core.ends(), "0 5");
    }

    @Holds(promise = 45, words = "Returns how many instructions were guessed wrong, those thrown away ahead of their ending not "
            + "counted.")
    static void wrongOnes() {
        Reorderium core = wide(Due.i(5, 1, 6, 6, 0), Due.i(12, 0, 1, 6, 5), Due.i(12, 0, 0, 0, 5), Due.i(12, 0, 1, 1, 5),
                Due.nothing(), Due.stop());
        core.setRegister(6, 1);
        core.run(8);
        due.same("one behind the open one has ended, another one was thrown away", core.wrong(), 1);
        Due.runOut(core);
        due.same("and the open one", core.wrong(), 2);
        due.same("of a new one", new Reorderium().wrong(), 0);
    }

    @Holds(promise = 47, words = "Returns how many instructions were thrown away out of the buffer.")
    static void outOfTheBuffer() {
        Reorderium core = Due.program(Due.nothing(), Due.nothing(), Due.nothing(), Due.nothing(), Due.stop());
        core.setHandlers(-1, 4);
        core.run(1);
        core.interrupt();
        core.run(1);
        due.same("those of the line of fetched ones are not counted", core.thrownAway(), 0);
        Reorderium full = Due.program(Due.i(5, 1, 6, 6, 0), Due.nothing(), Due.nothing(), Due.nothing(), Due.nothing(),
                Due.nothing(), Due.stop());
        full.setRegister(6, 1);
        full.setBuffer(4);
        full.setHandlers(-1, 6);
        full.run(6);
        full.interrupt();
        full.run(1);
        due.same("a full buffer", full.thrownAway(), 4);
    }

    @Holds(promise = 49, words = "Returns how many times a 9 read a line that was there, plus 1000 times how many times it asked "
            + "for one.")
    static void hits() {
        Reorderium core = wide(Due.i(9, 1, 0, 0, 0), Due.i(9, 2, 0, 0, 1), Due.i(19, 0, 0, 0, 0), Due.i(5, 7, 6, 6, 0),
                Due.i(9, 3, 0, 0, 2), Due.i(10, 0, 0, 6, 3), Due.i(9, 4, 0, 0, 3), Due.i(9, 5, 0, 0, 64));
        core.setRegister(6, 1);
        due.same("none", core.hits(), 0L);
        Due.runOut(core);
        due.same("one asks, one waits with it, one reads, one takes, one traps", core.hits() + " " + core.taken(), "1001 1");
    }

    @Holds(promise = 50, words = "Throws NoSuchElementException if no cycle has passed")
    static void noShare() {
        Reorderium core = Due.program(Due.nothing(), Due.nothing(), Due.stop());
        due.raises("at first", ELEMENT, core::share);
        due.raises("a refused run", ARGUMENT, () -> core.run(0));
        due.raises("still", ELEMENT, core::share);
        core.run(1);
        due.same("behind one cycle", core.share(), 0f);
        Due.runOut(core);
        due.same("both converted to float", core.share(), 3f / 4f);
        Reorderium third = Due.program(Due.stop());
        Due.runOut(third);
        due.same("a third", third.share(), 1f / 3f);
    }

    @Holds(promise = 51, words = "Tells whether the kinds and places of all ends, all registers, all words and, if something is "
            + "handled, the kept place are the same by the plain machine.")
    static void sameAtEdges() {
        due.same("of a new one", new Reorderium().isSame(), true);
        Reorderium core = early(Due.i(10, 0, 5, 7, 4), Due.i(9, 1, 6, 0, 4), Due.i(20, 0, 0, 0, 0));
        core.setHandlers(4, 4);
        due.same("with what was set", core.isSame(), true);
        while (!core.hasStopped()) {
            core.run(1);
            due.same("in the cycle " + core.cycle(), core.isSame(), true);
        }
        due.same("a trap was handled", core.kept() + " " + core.early(), "4 1");
    }

    @Holds(promise = 52, words = "Tells whether each inner register is free, told by the map, or told by what has retired or given "
            + "in the buffer, and those that are free are neither of the others and once in the free line.")
    static void wholeAtEdges() {
        for (int many : new int[] {10, 16, 24}) {
            Reorderium core = Due.program(Due.i(5, 0, 6, 6, 0), Due.i(1, 7, 0, 0, 4), Due.i(13, 0, 0, 7, 0),
                    Due.i(14, 0, 0, 0, 0));
            core.setRegister(6, 1);
            core.setInner(many);
            core.setHandlers(0, 0);
            due.same("at first with " + many, core.isWhole(), true);
            for (int cycle = 0; cycle < 60; cycle++) {
                core.run(1);
                due.same("with " + many + " in the cycle " + core.cycle(), core.isWhole(), true);
                if (cycle == 30) {
                    core.interrupt();
                }
            }
        }
    }
}
