import java.util.NoSuchElementException;

/** Promises 26 to 40 and 45: fetching, guesses, renaming, inner registers, the buffer and the queue. */
final class FrontTests {
    private static final Class<IllegalArgumentException> ARGUMENT = IllegalArgumentException.class;
    private static final Class<IndexOutOfBoundsException> INDEX = IndexOutOfBoundsException.class;
    private static final Class<NoSuchElementException> ELEMENT = NoSuchElementException.class;
    private static final Due due = new Due();

    public static void main(String[] args) {
        lineOfFetched();
        haltingBehind();
        counters();
        returns();
        lostReturns();
        returnsAfterWrong();
        table();
        innerRegisters();
        noInnerFree();
        fullBuffer();
        fullQueue();
        standingAlone();
        thrownAwayInner();
        wrongArguments();
        due.end();
    }

    private static void lineOfFetched() {
        Reorderium core = new Reorderium();
        for (int i = 0; i < 20; i++) {
            core.add(5, 1, 1, 1, 0);
        }
        core.setRegister(1, 1);
        core.setWidth(3);
        core.setQueue(2);
        core.run(1);
        due.same("as many as the width", core.fetched(), 3);
        due.same("fetching", core.fetching(), 3);
        core.run(1);
        due.same("two have left it, three have come", core.fetched(), 4);
        core.run(1);
        due.same("one has left it, three have come: twice the width", core.fetched(), 6);
        due.same("fetching", core.fetching(), 9);
        core.run(1);
        due.same("not more than twice the width", core.fetched(), 6);
        due.same("fetching stays", core.fetching(), 9);
    }

    private static void haltingBehind() {
        for (int code : new int[] {18, 21}) {
            Reorderium core = Due.program(Due.i(code, 0, 0, 0, 0), Due.nothing());
            core.setWidth(4);
            core.run(1);
            due.same("only one is fetched", core.fetched(), 1);
            due.raises("behind a " + code, ELEMENT, core::fetching);
            core.run(1);
            due.same("it is in the buffer", Due.buffer(core), "0e");
            due.raises("still behind a " + code, ELEMENT, core::fetching);
        }
        Reorderium jump = Due.program(Due.i(14, 0, 0, 0, 2), Due.nothing(), Due.i(14, 0, 0, 0, 3), Due.nothing());
        jump.setWidth(4);
        jump.run(1);
        due.same("no more behind a jump", jump.fetched(), 1);
        due.same("fetching", jump.fetching(), 2);
        jump.run(1);
        due.same("but behind a jump to the next place", jump.fetched(), 2);
        due.same("fetching where nothing is", jump.fetching(), 4);

        Reorderium wrong = Due.program(Due.i(12, 0, 0, 0, 2), Due.stop(), Due.nothing(), Due.stop());
        wrong.run(3);
        due.raises("behind a stop that was guessed", ELEMENT, wrong::fetching);
        wrong.run(1);
        due.raises("the next stop is fetched", ELEMENT, wrong::fetching);
        due.same("the wrong stop is thrown away", Due.buffer(wrong), "");
        due.same("and two are fetched", wrong.fetched(), 2);
        due.same("wrong", wrong.wrong(), 1);
        due.same("thrownAway", wrong.thrownAway(), 1);
    }

    /** Counts register 1 from 0 up to 4. */
    private static void counters() {
        Reorderium core = Due.program(Due.i(1, 2, 0, 0, 1), Due.i(1, 3, 0, 0, 4), Due.i(2, 1, 1, 2, 0),
                Due.i(13, 0, 1, 3, 2), Due.stop());
        core.run(5);
        due.same("counter at first", core.counter(3), 1);
        int[] seen = new int[4];
        while (!core.hasStopped()) {
            core.run(1);
            seen[core.counter(3)]++;
        }
        due.same("it was 2 and 3", seen[2] > 0 && seen[3] > 0 && seen[0] == 0, true);
        due.same("three were so, one was not", core.counter(3), 2);
        due.same("wrong: the first one and the last one", core.wrong(), 2);
        due.same("register 1", core.register(1), 4);

        Reorderium down = Due.program(Due.i(1, 1, 0, 0, 1), Due.i(12, 0, 0, 1, 0), Due.i(12, 0, 0, 1, 0),
                Due.i(14, 0, 0, 0, 1));
        down.run(20);
        due.same("it goes down to 0", down.counter(1), 0);
        due.same("the other one, too", down.counter(2), 0);
        due.same("no wrong guess", down.wrong(), 0);
        due.same("a jump has no counter", down.counter(3), 1);

        Reorderium high = new Reorderium();
        high.add(14, 0, 0, 0, 19);
        for (int i = 1; i < 19; i++) {
            high.add(18, 0, 0, 0, 0);
        }
        high.add(12, 0, 0, 0, 19);
        high.run(40);
        due.same("the place modulo 16, up to 3", high.counter(3), 3);
        due.same("one wrong guess until it is known", high.wrong(), 1);
    }

    private static void returns() {
        Reorderium core = Due.program(Due.i(15, 7, 0, 0, 3), Due.i(1, 1, 0, 0, 9), Due.stop(), Due.i(16, 0, 7, 0, 0));
        core.run(1);
        due.same("a call puts its next place", Due.returns(core), "1");
        due.same("and goes to n", core.fetching(), 3);
        core.run(1);
        due.same("a return takes it", core.returns(), 0);
        due.same("and goes there", core.fetching(), 1);
        Due.runOut(core);
        due.same("ends", Due.ends(core), "0@0 0@3 0@1 0@2");
        due.same("no wrong guess", core.wrong(), 0);
        Reorderium empty = Due.program(Due.i(16, 0, 7, 0, 0), Due.nothing(), Due.stop());
        empty.setRegister(7, 2);
        empty.run(1);
        due.same("with an empty stack, the next place", empty.fetched(), 2);
        Due.runOut(empty);
        due.same("ends", Due.ends(empty), "0@0 0@2");
        due.same("a wrong guess", empty.wrong(), 1);
    }

    private static void lostReturns() {
        Reorderium core = new Reorderium();
        for (int i = 0; i < 6; i++) {
            core.add(15, 1, 0, 0, i + 1);
        }
        core.setWidth(4);
        core.run(1);
        due.same("four calls", Due.returns(core), "4 3 2 1");
        core.run(1);
        due.same("the lowest ones are lost", Due.returns(core), "6 5 4 3");
        due.raises("returnAt(4)", INDEX, () -> core.returnAt(4));
        due.raises("returnAt(-1)", INDEX, () -> core.returnAt(-1));
        Reorderium taken = Due.program(Due.i(15, 1, 0, 0, 1), Due.i(15, 1, 0, 0, 2), Due.i(20, 0, 0, 0, 0));
        taken.setHandlers(-1, 3);
        taken.run(2);
        due.same("two calls", Due.returns(taken), "2 1");
        taken.interrupt();
        taken.run(1);
        due.same("an interrupt empties the stack", taken.returns(), 0);
        Reorderium trap = Due.program(Due.i(15, 1, 0, 0, 1), Due.i(15, 1, 0, 0, 2), Due.i(20, 0, 0, 0, 0));
        trap.run(3);
        due.same("two calls", Due.returns(trap), "2 1");
        trap.run(9);
        due.same("a trap empties the stack", trap.returns(), 0);
        due.same("and has stopped the core", trap.hasStopped(), true);
    }

    private static void returnsAfterWrong() {
        // The branch at 1 goes to 4, but a return behind it is fetched first.
        Reorderium core = Due.program(Due.i(15, 7, 0, 0, 1), Due.i(12, 0, 0, 0, 4), Due.i(16, 0, 7, 0, 0), Due.nothing(),
                Due.stop());
        core.setWidth(1);
        core.run(2);
        due.same("behind the call", Due.returns(core), "1");
        core.run(1);
        due.same("behind a return that was guessed", core.returns(), 0);
        core.run(2);
        due.same("the stack is as it was", Due.returns(core), "1");
        due.same("fetched: the stop", core.fetched(), 1);
        due.raises("fetching", ELEMENT, core::fetching);
        due.same("wrong", core.wrong(), 1);
        Due.runOut(core);
        due.same("ends", Due.ends(core), "0@0 0@1 0@4");

        // The return itself goes wrong: what it took stays taken.
        Reorderium itself = Due.program(Due.i(15, 7, 0, 0, 1), Due.i(15, 6, 0, 0, 2), Due.i(16, 0, 0, 0, 0),
                Due.nothing(), Due.stop());
        itself.setRegister(0, 4);
        itself.setWidth(4);
        itself.run(1);
        due.same("one of two returns is taken", Due.returns(itself), "1");
        itself.run(3);
        due.same("what the return took stays taken", Due.returns(itself), "1");
        due.same("wrong", itself.wrong(), 1);
        Due.runOut(itself);
        due.same("ends", Due.ends(itself), "0@0 0@1 0@2 0@4");
    }

    private static void table() {
        Reorderium core = Due.program(Due.nothing(), Due.i(17, 0, 1, 0, 0), Due.stop(), Due.i(14, 0, 0, 0, 0));
        core.setRegister(1, 3);
        core.run(1);
        due.same("at first the next place is guessed", core.fetching(), 2);
        core.run(3);
        due.same("wrong", core.wrong(), 1);
        core.run(20);
        due.same("then the place to which it went", core.wrong(), 1);
        due.same("it goes round", core.placeAt(4), 1);

        Reorderium first = Due.program(Due.i(17, 0, 1, 0, 0), Due.nothing(), Due.nothing());
        first.setRegister(1, 2);
        first.setWidth(1);
        first.run(1);
        due.same("the place 0: the next place is guessed", first.fetching(), 1);

        Reorderium shared = new Reorderium();
        shared.add(17, 0, 1, 0, 0);
        for (int i = 1; i < 8; i++) {
            shared.add(18, 0, 0, 0, 0);
        }
        shared.add(17, 0, 2, 0, 0);
        shared.add(18, 0, 0, 0, 0);
        shared.setRegister(1, 8);
        shared.setRegister(2, 0);
        shared.run(60);
        due.same("two that share a row of the table", shared.wrong() > 4, true);
        due.same("isSame", shared.isSame(), true);
    }

    private static void innerRegisters() {
        Reorderium core = Due.program(Due.i(5, 1, 2, 2, 0), Due.i(2, 1, 1, 1, 0), Due.i(15, 4, 0, 0, 3), Due.stop());
        core.setRegister(2, 3);
        core.run(2);
        due.same("the map tells the youngest", core.inner(1), 9);
        due.same("found anew", core.innerAnew(1), 9);
        due.same("of the older ones", "" + core.stateOf(8) + core.stateOf(1), "ww");
        due.same("of the new one", core.stateOf(9), 'm');
        due.same("of a free one", core.stateOf(10), 'f');
        due.same("not ready", core.isReady(8) || core.isReady(9) || core.isReady(10), false);
        due.same("ready", core.isReady(1), true);
        due.same("free line", Due.freeLine(core), "10 11 12 13 14 15");
        due.same("free", core.free(), 6);
        due.same("the register behind all ends", core.register(1), 0);
        core.run(1);
        due.same("a call is ready at once", core.isReady(10), true);
        due.same("the map", core.inner(4), 10);
        core.run(6);
        due.same("the quotient is there", core.isReady(8), true);
        due.same("and has retired", core.ends(), 1);
        due.same("the register", core.register(1), 1);
        due.same("the old one is free", core.stateOf(1), 'f');
        due.same("and stays ready", core.isReady(1), true);
        due.same("at the end of the line", Due.freeLine(core), "11 12 13 14 15 1");
        due.same("isWhole", core.isWhole(), true);
        Due.runOut(core);
        due.same("at last", Due.freeLine(core), "11 12 13 14 15 1 8 4");
        due.same("the registers", "" + core.register(1) + core.register(4), "23");
        due.same("isSame", core.isSame(), true);
    }

    private static void noInnerFree() {
        Reorderium core = Due.program(Due.i(5, 1, 2, 2, 0), Due.i(1, 3, 0, 0, 5), Due.i(1, 4, 0, 0, 6),
                Due.i(14, 0, 0, 0, 4), Due.stop());
        core.setRegister(2, 3);
        core.setInner(10);
        core.run(8);
        due.same("no inner register is free", core.free(), 0);
        due.same("so the third one is not renamed, nor what is behind it", Due.buffer(core), "0x 1e");
        due.same("it waits", core.fetched(), 3);
        core.run(1);
        due.same("two have retired; two are renamed", Due.buffer(core), "2q 3e");
        due.same("the first one that was free is given", core.inner(4), 1);
        due.same("given anew, it is not ready", core.isReady(1), false);
        due.same("free line", Due.freeLine(core), "3");
        Reorderium without = Due.program(Due.i(5, 1, 2, 2, 0), Due.i(1, 3, 0, 0, 5), Due.i(10, 0, 7, 3, 0),
                Due.nothing(), Due.i(15, 4, 0, 0, 5), Due.stop());
        without.setRegister(2, 3);
        without.setInner(10);
        without.run(6);
        due.same("those without a d are renamed, a call is not", Due.buffer(without), "0x 1e 2e 3e");
        due.same("they wait", without.fetched(), 2);
    }

    private static void fullBuffer() {
        Reorderium core = new Reorderium();
        core.add(5, 1, 1, 1, 0);
        for (int i = 0; i < 9; i++) {
            core.add(0, 0, 0, 0, 0);
        }
        core.setRegister(1, 1);
        core.setBuffer(4);
        core.setWidth(4);
        core.run(5);
        due.same("the buffer is full", core.inBuffer(), 4);
        due.same("buffer", Due.buffer(core), "0x 1e 2e 3e");
        due.same("the others wait", core.fetched(), 6);
        core.run(4);
        due.same("the four have retired, the next four are there", Due.buffer(core), "4e 5e 6e 7e");
        due.raises("bufferAt(4)", INDEX, () -> core.bufferAt(4));
        due.raises("bufferAt(-1)", INDEX, () -> core.bufferAt(-1));
        due.raises("stageAt(4)", INDEX, () -> core.stageAt(4));
        due.raises("stageAt(-1)", INDEX, () -> core.stageAt(-1));
    }

    private static void fullQueue() {
        Reorderium core = Due.program(Due.i(5, 1, 2, 2, 0), Due.i(2, 3, 1, 1, 0), Due.i(2, 4, 1, 1, 0), Due.nothing(),
                Due.i(17, 0, 1, 0, 0), Due.nothing());
        core.setRegister(2, 3);
        core.setQueue(2);
        core.run(3);
        due.same("the quotient has left the queue", Due.buffer(core), "0x 1q 2q 3e");
        due.same("the queue is full", core.inQueue(), 2);
        core.run(3);
        due.same("a 17 is not renamed, nor what is behind it", Due.buffer(core), "0x 1q 2q 3e");
        due.same("they wait", core.fetched(), 2);
        core.run(3);
        due.same("two sums begin, so there is room", Due.buffer(core), "1x 2x 3e 4q 5e");
        due.same("one is in the queue", core.inQueue(), 1);
    }

    private static void standingAlone() {
        Reorderium core = Due.program(Due.i(5, 1, 2, 2, 0), Due.i(19, 0, 0, 0, 0), Due.nothing(), Due.stop());
        core.setRegister(2, 3);
        core.setWidth(4);
        core.run(8);
        due.same("a 19 waits for an empty buffer", Due.buffer(core), "0x");
        core.run(1);
        due.same("then it is there alone", Due.buffer(core), "1e");
        core.run(1);
        due.same("then the others come", Due.buffer(core), "2e 3e");
        Due.runOut(core);
        due.same("life of the 19", Due.life(core, 1), "1 9 - 9 10");
        Reorderium first = Due.program(Due.i(19, 0, 0, 0, 0), Due.i(19, 0, 0, 0, 0), Due.stop());
        first.setWidth(4);
        first.run(2);
        due.same("one of two that stand alone", Due.buffer(first), "0e");
        first.run(1);
        due.same("the other one", Due.buffer(first), "1e");
        first.run(1);
        due.same("the stop", Due.buffer(first), "2e");
    }

    private static void thrownAwayInner() {
        Reorderium core = Due.program(Due.i(13, 0, 0, 1, 4), Due.i(1, 2, 0, 0, 5), Due.i(1, 3, 0, 0, 6),
                Due.i(1, 2, 0, 0, 7), Due.stop());
        core.setRegister(1, 1);
        core.setWidth(4);
        core.run(3);
        due.same("three behind the branch", Due.buffer(core), "0x 1x 2q 3q 4e");
        due.same("the map", "" + core.inner(2) + " " + core.inner(3), "10 9");
        core.run(1);
        due.same("the map is as it was", "" + core.inner(2) + core.inner(3), "23");
        due.same("those of the youngest come first", Due.freeLine(core), "11 12 13 14 15 10 9 8");
        due.same("thrownAway", core.thrownAway(), 4);
        due.same("the branch has retired", core.inBuffer(), 0);
        due.same("none was written", core.isReady(8), false);
        due.same("isWhole", core.isWhole(), true);
        Due.runOut(core);
        due.same("ends", Due.ends(core), "0@0 0@4");

        Reorderium trap = Due.program(Due.i(9, 1, 0, 0, -1), Due.i(1, 2, 0, 0, 5), Due.stop());
        trap.run(4);
        due.same("the trap is thrown away, too", Due.freeLine(trap), "10 11 12 13 14 15 9 8");
        due.same("thrownAway", trap.thrownAway(), 3);
        due.same("one that traps writes 0", trap.isReady(8), true);
        due.same("the map is as it was", trap.inner(1), 1);
        due.same("fetched", trap.fetched(), 0);
    }

    private static void wrongArguments() {
        Reorderium core = Due.program(Due.nothing());
        for (int bad : new int[] {-1, 8, Integer.MIN_VALUE, Integer.MAX_VALUE}) {
            due.raises("inner", ARGUMENT, () -> core.inner(bad));
            due.raises("innerAnew", ARGUMENT, () -> core.innerAnew(bad));
            due.raises("freeAt", INDEX, () -> core.freeAt(bad));
        }
        for (int bad : new int[] {-1, 16, Integer.MIN_VALUE, Integer.MAX_VALUE}) {
            due.raises("stateOf", INDEX, () -> core.stateOf(bad));
            due.raises("isReady", INDEX, () -> core.isReady(bad));
            due.raises("counter", ARGUMENT, () -> core.counter(bad));
        }
        due.raises("bufferAt", INDEX, () -> core.bufferAt(0));
        due.raises("stageAt", INDEX, () -> core.stageAt(0));
        due.raises("returnAt", INDEX, () -> core.returnAt(0));
    }
}
