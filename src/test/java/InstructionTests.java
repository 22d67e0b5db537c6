import java.util.NoSuchElementException;

/** Promises 15 to 25 and 51: ends, registers, words, what each instruction does, and the plain machine. */
final class InstructionTests {
    private static final Class<IllegalArgumentException> ARGUMENT = IllegalArgumentException.class;
    private static final Class<IndexOutOfBoundsException> INDEX = IndexOutOfBoundsException.class;
    private static final Class<NoSuchElementException> ELEMENT = NoSuchElementException.class;
    private static final int MIN = Integer.MIN_VALUE;
    private static final int MAX = Integer.MAX_VALUE;
    private static final Due due = new Due();

    public static void main(String[] args) {
        numbers();
        words();
        jumps();
        traps();
        handlers();
        lastPlace();
        noInstruction();
        wrongArguments();
        life();
        due.end();
    }

    private static void number(int code, int a, int b, int result) {
        Reorderium core = Due.program(Due.i(code, 3, 1, 2, 77), Due.stop());
        core.setRegister(1, a);
        core.setRegister(2, b);
        core.setRegister(3, 99);
        Due.runOut(core);
        due.same("code " + code + " of " + a + " and " + b, core.register(3), result);
        due.same("code " + code + " by the plain machine", core.registerByPlain(3), result);
        due.same("ends of code " + code, Due.ends(core), "0@0 0@1");
        due.same("isSame", core.isSame(), true);
    }

    private static void numbers() {
        number(0, 1, 2, 99);
        number(1, 1, 2, 77);
        number(2, MAX, 1, MIN);
        number(2, 5, -7, -2);
        number(3, MIN, 1, MAX);
        number(3, 5, 7, -2);
        number(4, 65536, 65536, 0);
        number(4, -3, 7, -21);
        number(5, -7, 2, -3);
        number(5, 7, -2, -3);
        number(5, MIN, -1, MIN);
        number(5, 0, 5, 0);
        number(6, -2, 15, 14);
        number(7, -1, 15, -16);
        number(8, -1, 0, 1);
        number(8, 0, 0, 0);
        number(8, MAX, MIN, 0);
        number(19, 1, 2, 99);
    }

    private static void words() {
        Reorderium core = Due.program(Due.i(10, 0, 1, 2, 3), Due.i(11, 0, 1, 2, -5), Due.i(9, 4, 1, 0, -5),
                Due.i(9, 5, 1, 0, 58), Due.stop());
        core.setRegister(1, 5);
        core.setRegister(2, 0x1234ABCD);
        core.setWord(0, 0x77770001);
        core.setWord(8, 1);
        core.setWord(63, -8);
        Due.runOut(core);
        due.same("a store", core.word(8), 0x1234ABCD);
        due.same("a store by the plain machine", core.wordByPlain(8), 0x1234ABCD);
        due.same("a store of 16 bits", core.word(0), 0x7777ABCD);
        due.same("a store of 16 bits by the plain machine", core.wordByPlain(0), 0x7777ABCD);
        due.same("a load", core.register(4), 0x7777ABCD);
        due.same("a load of the last word", core.register(5), -8);
        due.same("a load by the plain machine", core.registerByPlain(4), 0x7777ABCD);
        due.same("isSame", core.isSame(), true);
        Reorderium round = Due.program(Due.i(9, 4, 1, 0, MAX), Due.stop());
        round.setRegister(1, MIN + 3);
        round.setWord(2, 6);
        Due.runOut(round);
        due.same("an address goes round", round.register(4), 6);
    }

    private static void jump(int code, int a, int b, int n, String ends) {
        Reorderium core = Due.program(Due.i(code, 7, 1, 2, n), Due.stop(), Due.nothing(), Due.stop());
        core.setRegister(1, a);
        core.setRegister(2, b);
        Due.runOut(core);
        due.same("ends of code " + code + " with " + a + " and " + b, Due.ends(core), ends);
        due.same("by the plain machine", Due.endsByPlain(core), ends);
        due.same("register 7", core.register(7), code == 15 ? 1 : 0);
        due.same("isSame", core.isSame(), true);
    }

    private static void jumps() {
        jump(12, 4, 4, 3, "0@0 0@3");
        jump(12, 4, 5, 3, "0@0 0@1");
        jump(13, 4, 5, 2, "0@0 0@2 0@3");
        jump(13, 5, 5, 2, "0@0 0@1");
        jump(13, MIN, MAX, 3, "0@0 0@3");
        jump(14, 4, 5, 3, "0@0 0@3");
        jump(15, 4, 5, 2, "0@0 0@2 0@3");
        jump(16, 3, 0, -1, "0@0 0@3");
        jump(17, 2, 0, 99, "0@0 0@2 0@3");
    }

    private static void trap(int code, int a, int b, int n, int trap) {
        Reorderium core = Due.program(Due.nothing(), Due.i(code, 3, 1, 2, n), Due.stop());
        core.setRegister(1, a);
        core.setRegister(2, b);
        core.setRegister(3, 99);
        Due.runOut(core);
        due.same("ends of the trap of " + code, Due.ends(core), "0@0 " + trap + "@1");
        due.same("by the plain machine", Due.endsByPlain(core), "0@0 " + trap + "@1");
        due.same("it has stopped", core.hasStopped(), true);
        due.same("d stays", core.register(3), 99);
        due.same("d stays by the plain machine", core.registerByPlain(3), 99);
        due.same("isSame", core.isSame(), true);
        due.same("isWhole", core.isWhole(), true);
        due.raises("kept", ELEMENT, core::kept);
        due.raises("fetching", ELEMENT, core::fetching);
    }

    private static void traps() {
        trap(5, 3, 0, 0, 1);
        trap(9, 60, 0, 4, 2);
        trap(9, 0, 0, -1, 2);
        trap(10, 64, 0, 0, 2);
        trap(11, MIN, 0, 0, 2);
        trap(16, 64, 0, 0, 3);
        trap(16, -1, 0, 0, 3);
        trap(17, 64, 0, 0, 3);
        trap(17, MIN, 0, 0, 3);
        trap(20, 0, 0, 0, 4);
        trap(21, 0, 0, 0, 5);
    }

    private static void handlers() {
        Reorderium core = Due.program(Due.i(20, 0, 0, 0, 0), Due.i(1, 1, 0, 0, 5), Due.stop(), Due.nothing(),
                Due.i(21, 0, 0, 0, 0));
        core.setHandlers(3, -1);
        core.run(3);
        due.same("the trap is an end", Due.ends(core), "4@0");
        due.same("kept", core.kept(), 1);
        due.same("fetching goes on at the handler, and halts behind the 21", core.fetched(), 2);
        Due.runOut(core);
        due.same("it goes on at the kept place", Due.ends(core), "4@0 0@3 0@4 0@1 0@2");
        due.same("by the plain machine", Due.endsByPlain(core), "4@0 0@3 0@4 0@1 0@2");
        due.raises("nothing is handled", ELEMENT, core::kept);
        due.same("isSame", core.isSame(), true);

        Reorderium twice = Due.program(Due.i(20, 0, 0, 0, 0), Due.stop(), Due.i(5, 0, 0, 0, 0));
        twice.setHandlers(2, -1);
        Due.runOut(twice);
        due.same("a trap while one is handled stops", Due.ends(twice), "4@0 1@2");
        due.same("it has stopped", twice.hasStopped(), true);
        due.same("kept is still the first one", twice.kept(), 1);
        due.same("isSame", twice.isSame(), true);

        Reorderium back = Due.program(Due.i(21, 0, 0, 0, 0), Due.stop(), Due.i(21, 0, 0, 0, 0));
        back.setHandlers(2, -1);
        Due.runOut(back);
        due.same("a 21 that traps is handled, the next one goes back", Due.ends(back), "5@0 0@2 0@1");

        Reorderium asked = Due.program(Due.nothing(), Due.nothing(), Due.nothing(), Due.stop(), Due.nothing());
        asked.setHandlers(-1, 4);
        asked.run(3);
        due.same("two have retired", asked.ends(), 2);
        asked.interrupt();
        asked.run(1);
        due.same("an interrupt is taken ahead of the next one", Due.ends(asked), "0@0 0@1 9@2");
        due.same("the place is kept", asked.kept(), 2);
        due.same("the kind by the plain machine", asked.kindByPlain(2), 9);
        due.same("the place by the plain machine", asked.placeByPlain(2), 2);
        due.same("life of an interrupt", Due.life(asked, 2), "- - - - -");
        asked.run(5);
        due.same("there is nothing behind the handler", Due.ends(asked), "0@0 0@1 9@2 0@4");
        due.same("isSame", asked.isSame(), true);
    }

    private static void lastPlace() {
        Reorderium core = new Reorderium();
        core.add(14, 0, 0, 0, 63);
        core.add(21, 0, 0, 0, 0);
        for (int i = 2; i < 63; i++) {
            core.add(0, 0, 0, 0, 0);
        }
        core.add(20, 0, 0, 0, 0);
        core.setHandlers(1, -1);
        core.run(4);
        due.same("the trap at the place 63", Due.ends(core), "0@0 4@63");
        due.same("kept is the next place", core.kept(), 64);
        core.run(10);
        due.same("it goes back to 64", core.fetching(), 64);
        due.same("where nothing is", Due.ends(core), "0@0 4@63 0@1");

        Reorderium call = new Reorderium();
        call.add(14, 0, 0, 0, 63);
        call.add(16, 0, 5, 0, 0);
        for (int i = 2; i < 63; i++) {
            call.add(0, 0, 0, 0, 0);
        }
        call.add(15, 5, 0, 0, 1);
        call.run(2);
        due.same("64 is on the stack of returns", Due.returns(call), "64");
        call.run(1);
        due.same("the return is guessed to go to 64", call.fetching(), 64);
        Due.runOut(call);
        due.same("but traps", Due.ends(call), "0@0 0@63 3@1");
        due.same("the register of the call", call.register(5), 64);
        due.same("no wrong guess", call.wrong(), 0);
    }

    private static void noInstruction() {
        Reorderium core = Due.program(Due.i(14, 0, 0, 0, 40));
        core.setHandlers(0, 0);
        core.run(60);
        due.same("it goes where nothing is", Due.ends(core), "0@0");
        due.same("it fetches nothing", core.fetching(), 40);
        due.same("it has not stopped", core.hasStopped(), false);
        core.interrupt();
        core.run(1);
        due.same("unless it is interrupted", Due.ends(core), "0@0 9@40");
        due.same("kept", core.kept(), 40);
        due.same("isSame", core.isSame(), true);
        Reorderium empty = new Reorderium();
        empty.run(9);
        due.same("without instructions nothing ends", empty.ends(), 0);
        due.same("and the buffer is empty", empty.lost('f'), 9);
    }

    private static void wrongArguments() {
        Reorderium core = Due.program(Due.nothing(), Due.stop());
        due.raises("kindAt of no end", INDEX, () -> core.kindAt(0));
        Due.runOut(core);
        for (int bad : new int[] {-1, 2, MIN, MAX}) {
            due.raises("kindAt", INDEX, () -> core.kindAt(bad));
            due.raises("placeAt", INDEX, () -> core.placeAt(bad));
            due.raises("kindByPlain", INDEX, () -> core.kindByPlain(bad));
            due.raises("placeByPlain", INDEX, () -> core.placeByPlain(bad));
            due.raises("life of no end", INDEX, () -> core.life(bad, 0));
            due.raises("life of no end, wrong too", INDEX, () -> core.life(bad, 5));
        }
        for (int bad : new int[] {-1, 8, MIN, MAX}) {
            due.raises("register", ARGUMENT, () -> core.register(bad));
            due.raises("registerByPlain", ARGUMENT, () -> core.registerByPlain(bad));
        }
        for (int bad : new int[] {-1, 64, MIN, MAX}) {
            due.raises("word", ARGUMENT, () -> core.word(bad));
            due.raises("wordByPlain", ARGUMENT, () -> core.wordByPlain(bad));
        }
        for (int bad : new int[] {-1, 5, MIN, MAX}) {
            due.raises("life of a wrong part", ARGUMENT, () -> core.life(0, bad));
        }
        due.raises("life of one that never was in the queue", ELEMENT, () -> core.life(0, 2));
    }

    private static void life() {
        Reorderium core = Due.program(Due.i(5, 1, 2, 2, 0), Due.i(2, 3, 1, 1, 0), Due.nothing(), Due.stop());
        core.setRegister(2, 8);
        Due.runOut(core);
        due.same("life of a quotient", Due.life(core, 0), "1 2 3 9 9");
        due.same("life of a sum that waits for it", Due.life(core, 1), "1 2 9 10 10");
        due.same("life of one that ends at once", Due.life(core, 2), "2 3 - 3 10");
        due.same("life of the stop", Due.life(core, 3), "2 3 - 3 11");
        due.same("ends", core.ends(), 4);
        due.same("kindAt", core.kindAt(3), 0);
        due.same("placeAt", core.placeAt(3), 3);
        due.same("share", core.share(), 4f / 11f);
        Reorderium trap = Due.program(Due.i(9, 1, 2, 2, -1), Due.stop());
        Due.runOut(trap);
        due.same("life of a trap", Due.life(trap, 0), "1 2 3 4 4");
        Reorderium handled = Due.program(Due.stop());
        handled.setHandlers(-1, 0);
        handled.interrupt();
        handled.run(1);
        due.raises("life of an interrupt", ELEMENT, () -> handled.life(0, 4));
        due.raises("life of an interrupt, wrong too", ARGUMENT, () -> handled.life(0, 5));
    }
}
