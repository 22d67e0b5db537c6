import java.util.NoSuchElementException;

/** Promises 34 and 41 to 52: units, the bus, loads and stores, lines, losses and counts. */
final class UnitTests {
    private static final Class<IllegalArgumentException> ARGUMENT = IllegalArgumentException.class;
    private static final Due due = new Due();

    public static void main(String[] args) {
        simpleUnits();
        products();
        quotients();
        wordUnit();
        bus();
        lines();
        linesInOnePlace();
        takenValues();
        takenOfTheYoungest();
        takenLater();
        earlyLoads();
        earlyWaiting();
        marked();
        unitOfLoads();
        notEarly();
        wrongThrownAway();
        trapBehindTheWidth();
        losses();
        wrongArguments();
        due.end();
    }

    private static void simpleUnits() {
        Reorderium core = Due.program(Due.i(1, 0, 0, 0, 1), Due.i(8, 1, 7, 7, 1), Due.i(17, 0, 7, 7, 1),
                Due.i(13, 2, 7, 7, 1));
        core.setRegister(7, 3);
        core.setWidth(4);
        core.run(3);
        due.same("two of them begin in a cycle", Due.buffer(core), "0x 1x 2q 3q");
        core.run(1);
        due.same("then the next two", Due.buffer(core), "2x 3x");
        core.run(1);
        due.same("each one has a delay of 1", core.ends(), 4);
    }

    private static void products() {
        Reorderium core = Due.program(Due.i(4, 0, 7, 7, 1), Due.i(4, 1, 7, 7, 1), Due.i(2, 2, 0, 0, 1), Due.stop());
        core.setRegister(7, 3);
        core.setWidth(4);
        core.run(3);
        due.same("one begins in a cycle", Due.buffer(core), "0x 1q 2q 3e");
        core.run(1);
        due.same("the next one in the next cycle", Due.buffer(core), "0x 1x 2q 3e");
        Due.runOut(core);
        due.same("the delay is 3", Due.life(core, 0), "1 2 3 6 6");
        due.same("the delay of the next one", Due.life(core, 1), "1 2 4 7 7");
        due.same("one that waits for its operand", Due.life(core, 2), "1 2 6 7 7");
        due.same("the sum", core.register(2), 18);
    }

    private static void quotients() {
        Reorderium core = Due.program(Due.i(5, 0, 6, 7, 1), Due.i(5, 1, 7, 7, 1), Due.i(5, 2, 7, 7, 1), Due.stop());
        core.setRegister(7, 3);
        core.setRegister(6, 7);
        core.setWidth(4);
        Due.runOut(core);
        due.same("the first one", Due.life(core, 0), "1 2 3 9 9");
        due.same("the next one begins when it has ended", Due.life(core, 1), "1 2 9 15 15");
        due.same("the last one", Due.life(core, 2), "1 2 15 21 21");
        due.same("the quotient", core.register(0), 2);
        // A quotient on a wrong path leaves its unit when it is thrown away.
        Reorderium wrong = Due.program(Due.i(4, 0, 7, 7, 0), Due.i(12, 0, 0, 1, 4), Due.i(5, 2, 7, 7, 0), Due.stop(),
                Due.i(5, 3, 7, 7, 0), Due.stop());
        wrong.setRegister(7, 3);
        wrong.setRegister(1, 9);
        wrong.setWidth(4);
        wrong.run(6);
        due.same("the wrong one is in its delay", Due.buffer(wrong), "1x 2x 3e");
        Due.runOut(wrong);
        due.same("the right one begins at once", Due.life(wrong, 2), "7 8 9 15 15");
    }

    private static void wordUnit() {
        Reorderium core = Due.program(Due.i(10, 0, 7, 7, 0), Due.i(11, 0, 7, 7, 1), Due.i(9, 0, 7, 7, -1),
                Due.i(9, 1, 7, 7, 8), Due.i(20, 0, 0, 0, 0));
        core.setWidth(4);
        core.run(3);
        due.same("one begins in a cycle", Due.buffer(core), "0x 1q 2q 3q 4e");
        core.run(1);
        due.same("a store has a delay of 1", core.ends(), 1);
        due.same("the next one", Due.buffer(core), "1x 2q 3q 4e");
        core.run(1);
        due.same("a 9 without an address has a delay", Due.buffer(core), "2x 3q 4e");
        core.run(1);
        due.same("of 1, and traps", Due.ends(core), "0@0 0@1 2@2");
        due.same("hits", core.hits(), 0L);
        due.same("nothing begins behind it", core.asked(), 0);

        // A store needs only its a to begin, and its b to retire.
        Reorderium store = Due.program(Due.i(4, 0, 7, 7, 0), Due.i(10, 0, 6, 0, 5), Due.i(11, 0, 6, 0, 6), Due.stop());
        store.setRegister(7, 300);
        store.setWord(6, -1);
        store.run(5);
        due.same("both have ended", Due.buffer(store), "0x 1e 2e 3e");
        due.same("no word is changed", store.word(5), 0);
        store.run(1);
        due.same("the first one has retired", store.word(5), 90000);
        Due.runOut(store);
        due.same("the second one has retired", store.word(6), 0xFFFF0000 | 90000 & 0xFFFF);
        due.same("isSame", store.isSame(), true);
    }

    private static void bus() {
        // The product of the cycle 3 and two sums of the cycle 5 end in the cycle 6.
        Reorderium core = Due.program(Due.i(4, 0, 7, 7, 0), Due.nothing(), Due.nothing(), Due.nothing(),
                Due.nothing(), Due.nothing(), Due.nothing(), Due.nothing(), Due.i(2, 1, 7, 7, 0), Due.i(2, 2, 7, 7, 0),
                Due.i(2, 3, 1, 2, 0), Due.stop());
        core.setRegister(7, 3);
        core.setWidth(4);
        core.setBuffer(16);
        core.run(6);
        due.same("the two oldest write; the third one waits for the bus", Due.buffer(core), "4e 5e 6e 7e 8e 9b 10q 11e");
        due.same("it is not ready", core.isReady(core.inner(2)), false);
        core.run(1);
        due.same("it writes in the next cycle", Due.buffer(core), "8e 9e 10x 11e");
        Due.runOut(core);
        due.same("life of the first", Due.life(core, 8), "3 4 5 6 8");
        due.same("life of the one that waited", Due.life(core, 9), "3 4 5 7 8");
        due.same("life of the sum of both", Due.life(core, 10), "3 4 7 8 8");
        due.same("the sum of both", core.register(3), 12);
    }

    private static void lines() {
        Reorderium core = Due.program(Due.i(9, 0, 7, 7, 1), Due.i(9, 1, 7, 7, 2), Due.i(9, 2, 7, 7, 4),
                Due.i(9, 3, 7, 7, 8), Due.stop());
        core.setWidth(4);
        core.setTime(0, 3);
        core.setWord(2, 22);
        core.run(3);
        due.same("the first one waits", Due.buffer(core), "0m 1q 2q 3q 4e");
        due.same("asked", core.asked(), 1);
        due.same("hits", core.hits(), 1000L);
        core.run(1);
        due.same("the next one waits for the same line", Due.buffer(core), "0m 1m 2q 3q 4e");
        due.same("asked", core.asked(), 1);
        due.same("hits", core.hits(), 1000L);
        core.run(1);
        due.same("the third one asks for another", core.asked(), 2);
        due.same("no line is there", core.lineAt(0), -1);
        core.run(1);
        due.same("both have ended in the cycle 6 with the line", core.ends(), 2);
        due.same("it is there", core.lineAt(0), 0);
        due.same("the fourth one asks in the same cycle", core.asked(), 2);
        due.same("a word", core.register(1), 22);
        Due.runOut(core);
        due.same("life of the third", Due.life(core, 2), "1 2 5 11 11");
        due.same("life of the fourth", Due.life(core, 3), "1 2 6 12 12");
        due.same("hits", core.hits(), 3000L);
        due.same("lines", "" + core.lineAt(0) + core.lineAt(1) + core.lineAt(2) + core.lineAt(3), "012-1");

        Reorderium three = Due.program(Due.i(9, 0, 7, 7, 0), Due.i(9, 1, 7, 7, 4), Due.i(9, 2, 7, 7, 8),
                Due.i(9, 3, 7, 7, 5), Due.stop());
        three.setWidth(4);
        three.run(5);
        due.same("two lines are asked for: no third one, but one more waits", Due.buffer(three), "0m 1m 2q 3m 4e");
        due.same("asked", three.asked(), 2);

        Reorderium there = Due.program(Due.i(9, 0, 7, 7, 0), Due.i(9, 1, 0, 0, 3), Due.stop());
        Due.runOut(there);
        due.same("a line that is there is read in 2 cycles", Due.life(there, 1), "1 2 9 11 11");
        due.same("hits", there.hits(), 1001L);
    }

    private static void linesInOnePlace() {
        // Lines 1 and 5 come in the same cycle; the one that was asked for later stays.
        Reorderium core = Due.program(Due.i(9, 0, 7, 7, 4), Due.i(9, 1, 7, 7, 20), Due.stop());
        core.setTime(1, 5);
        core.setTime(5, 4);
        core.setWord(4, 44);
        core.setWord(20, 55);
        core.run(7);
        due.same("both are asked for", core.asked(), 2);
        due.same("none is there", core.lineAt(1), -1);
        core.run(1);
        due.same("both have come", core.asked(), 0);
        due.same("the later one is there", core.lineAt(1), 5);
        due.same("both have ended", Due.life(core, 0) + ", " + Due.life(core, 1), "1 2 3 8 8, 1 2 4 8 8");
        due.same("the words", "" + core.register(0) + " " + core.register(1), "44 55");
        // A line comes also for a load that is thrown away.
        Reorderium wrong = Due.program(Due.i(12, 0, 0, 0, 2), Due.i(9, 1, 7, 7, 4), Due.nothing());
        wrong.run(4);
        due.same("the load is thrown away", wrong.thrownAway() > 0 && wrong.inBuffer() == 0, true);
        due.same("but its line is asked for", wrong.asked(), 1);
        wrong.run(5);
        due.same("and comes", wrong.lineAt(1), 1);
        due.same("hits", wrong.hits(), 1000L);
    }

    private static void takenValues() {
        Reorderium core = Due.program(Due.i(5, 0, 7, 7, 0), Due.i(10, 0, 6, 7, 5), Due.i(9, 1, 6, 0, 5), Due.stop());
        core.setRegister(7, 3);
        Due.runOut(core);
        due.same("the store", Due.life(core, 1), "1 2 3 4 9");
        due.same("the load takes its value with a delay of 1", Due.life(core, 2), "2 3 4 5 10");
        due.same("taken", core.taken(), 1);
        due.same("hits", core.hits(), 0L);
        due.same("the value", core.register(1), 3);
        due.same("isSame", core.isSame(), true);
        due.same("early", core.early(), 0);

        Reorderium half = Due.program(Due.i(5, 0, 7, 7, 0), Due.i(11, 0, 6, 7, 5), Due.i(9, 1, 6, 0, 5), Due.stop());
        half.setRegister(7, 3);
        half.setWord(5, 0x10000);
        half.run(8);
        due.same("a load cannot take the value of a 11", Due.buffer(half), "0x 1e 2q 3e");
        Due.runOut(half);
        due.same("it begins when this has retired", Due.life(half, 2), "2 3 9 15 15");
        due.same("the value", half.register(1), 0x10003);
        due.same("taken", half.taken(), 0);

        Reorderium unready = Due.program(Due.i(4, 0, 7, 7, 0), Due.i(10, 0, 6, 0, 5), Due.i(9, 1, 6, 0, 5), Due.stop());
        unready.setRegister(7, 3);
        unready.setWidth(1);
        unready.run(5);
        due.same("a load waits for the b of the store", Due.buffer(unready), "0x 1e 2q 3e");
        due.same("none is taken", unready.taken(), 0);
        unready.run(1);
        due.same("with it, it begins", Due.buffer(unready), "1e 2x 3e");
        due.same("one is taken", unready.taken(), 1);
        Due.runOut(unready);
        due.same("ends", Due.ends(unready), "0@0 0@1 0@2 0@3");
        due.same("the value", unready.register(1), 9);
    }

    private static void takenOfTheYoungest() {
        Reorderium core = Due.program(Due.i(5, 0, 7, 7, 0), Due.i(10, 0, 6, 7, 5), Due.i(10, 0, 6, 6, 5),
                Due.i(10, 0, 6, 7, 4), Due.i(10, 0, 6, 7, 99), Due.i(9, 1, 6, 0, 5), Due.stop());
        core.setRegister(7, 3);
        core.setRegister(6, 1);
        core.setWidth(4);
        core.setBuffer(16);
        core.setQueue(8);
        core.setHandlers(6, -1);
        core.run(7);
        due.same("all stores have ended; one waits to trap", Due.buffer(core), "0x 1e 2e 3e 4e 5x 6e");
        due.same("the youngest one with the same address counts", core.taken(), 1);
        Due.runOut(core);
        due.same("the trap is taken", Due.ends(core), "0@0 0@1 0@2 0@3 2@4 0@6");
        due.same("isSame", core.isSame(), true);
        Reorderium two = Due.program(Due.i(5, 0, 7, 7, 0), Due.i(10, 0, 6, 7, 5), Due.i(10, 0, 6, 6, 5),
                Due.i(9, 1, 6, 0, 5), Due.stop());
        two.setRegister(7, 3);
        two.setRegister(6, 1);
        Due.runOut(two);
        due.same("taken of the youngest", two.taken(), 1);
        due.same("its value", two.register(1), 1);
        due.same("life", Due.life(two, 3), "2 3 5 6 10");
    }

    private static void takenLater() {
        // The store at 2 knows its address late, but the load has the value of the younger store at 3.
        Reorderium core = Due.program(Due.i(5, 0, 7, 7, 0), Due.i(4, 5, 6, 6, 0), Due.i(10, 0, 5, 7, 4),
                Due.i(10, 0, 6, 6, 4), Due.i(9, 1, 6, 0, 4), Due.stop());
        core.setRegister(7, 3);
        core.setRegister(6, 1);
        core.setWidth(4);
        Due.runOut(core);
        due.same("taken", core.taken(), 1);
        due.same("early", core.early(), 0);
        due.same("the value", core.register(1), 1);
        due.same("isSame", core.isSame(), true);
        // The other way round: the value of the older store was taken, then the younger one is known.
        Reorderium older = Due.program(Due.i(5, 0, 7, 7, 0), Due.i(4, 5, 6, 6, 0), Due.i(10, 0, 6, 6, 4),
                Due.i(10, 0, 5, 7, 4), Due.i(9, 1, 6, 0, 4), Due.stop());
        older.setRegister(7, 3);
        older.setRegister(6, 1);
        older.setWidth(4);
        Due.runOut(older);
        due.same("taken of the older one", older.taken(), 1);
        due.same("early", older.early(), 1);
        due.same("the value", older.register(1), 3);
        due.same("the mark", older.isMarked(4), true);
        due.same("isSame", older.isSame(), true);
    }

    private static void earlyLoads() {
        // The address of the store at 1 is known late; the load at 2 goes ahead, the first time.
        Reorderium core = Due.program(Due.i(4, 5, 6, 6, 0), Due.i(10, 0, 5, 7, 4), Due.i(9, 1, 6, 0, 4),
                Due.i(2, 2, 1, 1, 0), Due.i(2, 3, 3, 6, 0), Due.i(13, 0, 3, 7, 0), Due.stop());
        core.setRegister(7, 3);
        core.setRegister(6, 1);
        core.setTime(1, 1);
        core.run(6);
        due.same("the load and a sum have ended", Due.buffer(core), "1x 2e 3e 4b 5q 6e");
        due.same("the map", "" + core.inner(1) + " " + core.inner(2) + " " + core.inner(3), "9 10 11");
        core.run(1);
        due.same("the load went wrong", core.early(), 1);
        due.same("its mark is set", core.isMarked(2), true);
        due.same("all others are not", core.isMarked(1) || core.isMarked(3), false);
        due.same("it and the younger ones are thrown away", core.thrownAway(), 5);
        due.same("the map is as it was", "" + core.inner(1) + core.inner(2) + core.inner(3), "123");
        due.same("it is fetched again", core.fetched(), 2);
        due.same("fetching", core.fetching(), 4);
        due.same("the store has retired", core.word(5), 3);
        Due.runOut(core);
        due.same("it goes wrong once", core.early(), 1);
        due.same("register", core.register(1), 3);
        due.same("isSame", core.isSame(), true);
        due.same("isWhole", core.isWhole(), true);

        // With its mark, the load waits for all older stores, of other addresses, too.
        Reorderium marked = Due.program(Due.i(4, 5, 6, 6, 0), Due.i(10, 0, 5, 7, 4), Due.i(9, 1, 6, 0, 4),
                Due.i(2, 6, 6, 6, 0), Due.i(14, 0, 0, 0, 0));
        marked.setRegister(6, 1);
        marked.setTime(1, 1);
        marked.run(60);
        due.same("the mark stays", marked.isMarked(2), true);
        due.same("early", marked.early(), 1);
        int end = 5;
        due.same("the next time", marked.placeAt(end + 2), 2);
        due.same("it begins when the store has ended",
                marked.life(end + 2, 2) >= marked.life(end + 1, 3), true);
    }

    /** Two rounds: in the first one the load at 4 goes wrong, in the second one it waits for the store at 3 alone. */
    private static void marked() {
        Reorderium core = Due.program(Due.i(19, 0, 0, 0, 0), Due.i(5, 0, 6, 6, 0), Due.i(4, 5, 6, 6, 0),
                Due.i(10, 0, 5, 7, 4), Due.i(9, 1, 6, 0, 4), Due.i(9, 2, 6, 0, 8), Due.i(14, 0, 0, 0, 0));
        core.setRegister(7, 3);
        core.setRegister(6, 1);
        core.setWidth(4);
        core.setQueue(8);
        core.setTime(1, 1);
        core.setTime(2, 1);
        core.run(22);
        due.same("early", core.early(), 1);
        due.same("mark", core.isMarked(4), true);
        due.same("the load in the first round", Due.life(core, 4), "8 9 10 12 12");
        due.same("the load in the second round", Due.life(core, 11), "10 14 19 20 21");
        due.same("the other one does not wait", Due.life(core, 12), "10 15 16 18 22");
        due.same("taken", core.taken(), 1);
        due.same("isSame", core.isSame(), true);
    }

    private static void unitOfLoads() {
        Reorderium there = Due.program(Due.i(9, 0, 7, 0, 0), Due.i(19, 0, 0, 0, 0), Due.i(9, 1, 7, 0, 0),
                Due.i(9, 2, 7, 0, 1), Due.stop());
        there.setWidth(4);
        Due.runOut(there);
        due.same("a load of a line that is there", Due.life(there, 2), "1 10 11 13 13");
        due.same("the next one, in the next cycle", Due.life(there, 3), "1 10 12 14 14");
        due.same("hits", there.hits(), 1002L);

        Reorderium taken = Due.program(Due.i(5, 0, 7, 7, 0), Due.i(10, 0, 6, 7, 5), Due.i(10, 0, 6, 7, 6),
                Due.i(9, 1, 6, 0, 5), Due.i(9, 2, 6, 0, 6), Due.stop());
        taken.setRegister(7, 3);
        taken.setWidth(4);
        Due.runOut(taken);
        due.same("a load that takes a value", Due.life(taken, 3), "1 2 5 6 9");
        due.same("the next one, in the next cycle", Due.life(taken, 4), "2 3 6 7 10");
        due.same("taken", taken.taken(), 2);

        Reorderium waits = Due.program(Due.i(5, 0, 7, 7, 0), Due.i(11, 0, 6, 7, 5), Due.i(9, 1, 6, 0, 5),
                Due.i(9, 2, 6, 0, 20), Due.stop());
        waits.setRegister(7, 3);
        waits.setWidth(4);
        Due.runOut(waits);
        due.same("behind a load that cannot begin, another one does", waits.life(3, 2), 4);
        due.same("and that one begins when it can", waits.life(2, 2), 9);
    }

    private static void earlyWaiting() {
        // The load waits for its line when the store ends.
        Reorderium core = Due.program(Due.i(4, 5, 6, 6, 0), Due.i(10, 0, 5, 7, 4), Due.i(9, 1, 6, 0, 4),
                Due.i(9, 2, 6, 0, 4), Due.stop());
        core.setRegister(7, 3);
        core.setRegister(6, 1);
        core.setTime(1, 30);
        core.run(6);
        due.same("both loads wait", Due.buffer(core), "1x 2m 3m 4e");
        core.run(1);
        due.same("the oldest of them goes wrong", core.early(), 1);
        due.same("the marks", "" + core.isMarked(2) + core.isMarked(3), "truefalse");
        due.same("fetched", core.fetched(), 2);
        due.same("the line is still asked for", core.asked(), 1);
        Due.runOut(core);
        due.same("registers", "" + core.register(1) + core.register(2), "33");
        due.same("hits", core.hits(), 1000L);
        due.same("they waited for the same line", core.life(2, 3), 34);
        due.same("isSame", core.isSame(), true);
    }

    private static void notEarly() {
        // Another address, an older load, and a store that traps: nothing goes wrong.
        Reorderium core = Due.program(Due.i(9, 0, 6, 0, 4), Due.i(4, 5, 6, 6, 0), Due.i(11, 0, 5, 7, 4),
                Due.i(9, 1, 6, 0, 5), Due.i(10, 0, 5, 7, 99), Due.stop());
        core.setRegister(7, 3);
        core.setRegister(6, 1);
        core.setTime(1, 1);
        core.setWord(6, 8);
        Due.runOut(core);
        due.same("early", core.early(), 0);
        due.same("registers", "" + core.register(0) + core.register(1), "08");
        due.same("word", core.word(5), 3);
        due.same("isSame", core.isSame(), true);
    }

    private static void wrongThrownAway() {
        // The younger branch ends first and is wrong, too; then the older one throws it away.
        Reorderium core = Due.program(Due.i(4, 5, 6, 6, 0), Due.i(12, 0, 5, 6, 4), Due.i(12, 0, 6, 6, 5), Due.nothing(),
                Due.stop(), Due.stop());
        core.setRegister(6, 1);
        core.run(60);
        due.same("both are counted", core.wrong(), 2);
        due.same("ends", Due.ends(core), "0@0 0@1 0@4");
        // Both end in one cycle: the younger one is thrown away ahead of its ending.
        Reorderium once = Due.program(Due.i(12, 0, 6, 6, 3), Due.i(12, 0, 6, 6, 2), Due.stop(), Due.stop());
        once.run(60);
        due.same("one is counted", once.wrong(), 1);
        due.same("ends", Due.ends(once), "0@0 0@3");
        due.same("counter of the one that is thrown away", once.counter(1), 1);
        due.same("counter of the other one", once.counter(0), 2);
    }

    private static void trapBehindTheWidth() {
        Reorderium core = Due.program(Due.i(5, 0, 7, 7, 0), Due.nothing(), Due.i(20, 0, 0, 0, 0), Due.stop());
        core.setRegister(7, 1);
        core.run(9);
        due.same("as many as the width have retired", Due.ends(core), "0@0 0@1");
        core.run(1);
        due.same("then the trap", Due.ends(core), "0@0 0@1 4@2");
        due.same("life of the trap", Due.life(core, 2), "2 3 - 3 10");
        Reorderium wide = Due.program(Due.i(5, 0, 7, 7, 0), Due.nothing(), Due.i(20, 0, 0, 0, 0), Due.stop());
        wide.setRegister(7, 1);
        wide.setWidth(3);
        wide.run(9);
        due.same("within the width, in the same cycle", Due.ends(wide), "0@0 0@1 4@2");
        due.same("which is not lost", wide.lost('t'), 0);
    }

    private static void losses() {
        Reorderium core = Due.program(Due.i(5, 0, 7, 7, 0), Due.i(9, 1, 6, 0, 5), Due.i(20, 0, 0, 0, 0), Due.nothing(),
                Due.stop());
        core.setRegister(7, 1);
        core.setTime(1, 12);
        core.setHandlers(3, 3);
        core.run(3);
        due.same("empty, empty, in the queue", Due.losses(core), "i0t0f2q1x0m0b0d0");
        core.run(6);
        due.same("in its delay, then it retires", Due.losses(core), "i0t0f2q1x5m0b0d0");
        core.run(5);
        due.same("it waits for a line", Due.losses(core), "i0t0f2q1x5m5b0d0");
        core.run(1);
        due.same("it retires, and the trap is in the width", Due.losses(core), "i0t0f2q1x5m5b0d0");
        due.same("ends", Due.ends(core), "0@0 0@1 4@2");
        Reorderium trap = Due.program(Due.i(20, 0, 0, 0, 0), Due.stop());
        trap.setHandlers(1, 1);
        trap.run(3);
        due.same("a trap", Due.losses(trap), "i0t1f2q0x0m0b0d0");
        Reorderium asked = Due.program(Due.i(5, 0, 7, 7, 0), Due.stop());
        asked.setHandlers(1, 1);
        asked.run(4);
        asked.interrupt();
        asked.run(1);
        due.same("an interrupt", Due.losses(asked), "i1t0f2q1x1m0b0d0");
        due.same("thrownAway", asked.thrownAway(), 2);
        due.same("it is taken ahead of the oldest one", Due.ends(asked), "9@0");
        due.same("share", asked.share(), 1f / 5f);
        due.same("isWhole", asked.isWhole(), true);
    }

    private static void wrongArguments() {
        Reorderium core = Due.program(Due.nothing());
        for (int bad : new int[] {-1, 16, Integer.MIN_VALUE, Integer.MAX_VALUE}) {
            due.raises("isMarked", ARGUMENT, () -> core.isMarked(bad));
        }
        for (int bad : new int[] {-1, 4, Integer.MIN_VALUE, Integer.MAX_VALUE}) {
            due.raises("lineAt", ARGUMENT, () -> core.lineAt(bad));
        }
        for (char bad : new char[] {'e', 'I', ' ', 0, (char) 65535, (char) ('i' + 256)}) {
            due.raises("lost", ARGUMENT, () -> core.lost(bad));
        }
        due.raises("share", NoSuchElementException.class, core::share);
        core.run(1);
        due.same("share", core.share(), 0f);
    }
}
