import java.util.function.BiConsumer;

/** The edges of beginnings, answers and endings, promises 34 and 41 to 43, 48, 49: each test holds its words. */
final class UnitBoundaryTests {
    private static final Class<IllegalArgumentException> ARGUMENT = IllegalArgumentException.class;
    private static final int MIN = Integer.MIN_VALUE;
    private static final int MAX = Integer.MAX_VALUE;
    private static final Due due = new Due();

    public static void main(String[] args) {
        due.runAll(UnitBoundaryTests.class);
        due.end();
    }

    /** Width 4, with a great buffer and a great queue. */
    private static Reorderium wide(int[]... instructions) {
        Reorderium core = Due.program(instructions);
        core.setWidth(4);
        core.setBuffer(16);
        core.setQueue(8);
        core.setInner(24);
        return core;
    }

    @Holds(promise = 34, words = "In a cycle, at most two of 1 to 3, 6 to 8, 12, 13, 16 and 17 begin, with a delay of 1")
    static void twoSimpleOnes() {
        for (int code : new int[] {1, 2, 3, 6, 7, 8, 12, 13}) {
            Reorderium core = wide(Due.i(code, 1, 7, 6, 60), Due.i(code, 2, 7, 6, 60), Due.i(code, 3, 7, 6, 60),
                    Due.i(4, 4, 6, 6, 0), Due.stop());
            core.setRegister(7, 9);
            core.run(3);
            due.same("two of " + code + " and a 4", Due.buffer(core), "0x 1x 2q 3x 4e");
            core.run(1);
            due.same("the third one in the next cycle", core.ends() + " " + Due.buffer(core), "2 2x 3x 4e");
            core.run(1);
            due.same("a delay of 1", core.ends(), 3);
        }
        for (int code = 16; code <= 17; code++) {
            Reorderium core = wide(Due.i(code, 0, 1, 0, 0), Due.i(code, 0, 2, 0, 0), Due.i(code, 0, 3, 0, 0), Due.stop());
            core.setRegister(1, 1);
            core.setRegister(2, 2);
            core.setRegister(3, 3);
            core.run(3);
            due.same("two of " + code, Due.buffer(core), "0x 1x 2q 3e");
            core.run(1);
            due.same("the third one in the next cycle", Due.buffer(core), "2x 3e");
        }
        Reorderium mixed = wide(Due.i(1, 1, 0, 0, 5), Due.i(13, 0, 7, 7, 9), Due.i(17, 0, 6, 0, 0), Due.i(7, 2, 7, 7, 0));
        mixed.setRegister(6, 3);
        mixed.run(3);
        due.same("all of them share the two", Due.buffer(mixed), "0x 1x 2q 3q");
    }

    @Holds(promise = 34, words = "at most one 4, with a delay of 3")
    static void oneProduct() {
        Reorderium core = wide(Due.i(4, 1, 7, 7, 0), Due.i(4, 2, 7, 7, 0), Due.i(1, 3, 0, 0, 0), Due.stop());
        core.run(3);
        due.same("one", Due.buffer(core), "0x 1q 2x 3e");
        Due.runOut(core);
        due.same("the lives", Due.life(core, 0) + ", " + Due.life(core, 1), "1 2 3 6 6, 1 2 4 7 7");
    }

    @Holds(promise = 34, words = "a 5 only if no other 5 is in its delay, with a delay of 6")
    static void oneQuotient() {
        Reorderium core = wide(Due.i(5, 1, 7, 7, 0), Due.i(5, 2, 7, 7, 0), Due.i(4, 3, 7, 7, 0), Due.stop());
        core.setRegister(7, 1);
        core.run(8);
        due.same("the second one waits up to the cycle 8", Due.buffer(core), "0x 1q 2e 3e");
        core.run(1);
        due.same("it begins in the cycle in which the first one ends", Due.buffer(core), "1x 2e 3e");
        Due.runOut(core);
        due.same("the lives", Due.life(core, 0) + ", " + Due.life(core, 1), "1 2 3 9 9, 1 2 9 15 15");
    }

    /** In the cycle 9 the product at 1, the load at 2 and the quotient at 3 end. */
    private static Reorderium threeForTheBus() {
        Reorderium core = wide(Due.i(4, 1, 7, 7, 0), Due.i(4, 2, 1, 1, 0), Due.i(9, 3, 0, 0, 0), Due.i(5, 4, 7, 7, 0),
                Due.i(5, 5, 7, 7, 0), Due.stop());
        core.setRegister(7, 1);
        return core;
    }

    @Holds(promise = 34, words = "a 5 only if no other 5 is in its delay")
    static void quotientBehindOneThatWaitsForTheBus() {
        Reorderium core = threeForTheBus();
        core.run(8);
        due.same("both wait", Due.buffer(core), "1x 2m 3x 4q 5e");
        core.run(1);
        due.same("one that waits for the bus is not in its delay", Due.buffer(core), "3b 4x 5e");
    }

    @Holds(promise = 34, words = "and at most one of 9 to 11. A 10 or 11 has a delay of 1.")
    static void oneWord() {
        for (int code = 9; code <= 11; code++) {
            Reorderium core = wide(Due.i(code, 1, 0, 7, code == 9 ? 99 : 0), Due.i(10, 0, 0, 7, 4), Due.i(11, 0, 0, 7, 8),
                    Due.i(9, 2, 0, 0, 99));
            core.run(3);
            due.same("one with the " + code, Due.buffer(core), "0x 1q 2q 3q");
        }
        Reorderium core = wide(Due.i(5, 1, 6, 6, 0), Due.i(10, 0, 0, 7, 4), Due.i(11, 0, 0, 7, 8), Due.i(9, 2, 0, 0, 12));
        core.setRegister(6, 1);
        core.run(4);
        due.same("then the next one", Due.buffer(core), "0x 1e 2x 3q");
        core.run(1);
        due.same("then the last one", Due.buffer(core), "0x 1e 2e 3m");
    }

    @Holds(promise = 34, words = "It needs a unit and its operands ready: 1 none; 9, 10 and 11 only a; 16 and 17 only a; "
            + "the others a and b.")
    static void operands() {
        for (int code = 1; code <= 17; code++) {
            boolean isQueued = code <= 13 || code >= 16;
            if (!isQueued) {
                continue;
            }
            boolean needsA = code != 1;
            boolean needsB = code != 1 && (code <= 8 || code == 12 || code == 13);
            due.same(code + " without a", beginsWith(code, 1, 7), !needsA);
            due.same(code + " without b", beginsWith(code, 7, 1), !needsB);
            due.same(code + " with both", beginsWith(code, 7, 7), true);
        }
    }

    /** Whether it begins at once behind a slow load that gives register 1. */
    private static boolean beginsWith(int code, int a, int b) {
        Reorderium core = wide(Due.i(9, 1, 6, 0, 1), Due.i(code, 2, a, b, 2), Due.nothing());
        core.setRegister(7, 2);
        core.setTime(0, 30);
        core.run(4);
        return core.stageAt(1) != 'q';
    }

    /** The load at 2 goes wrong once, so 2, 18, 34 and 50 are marked; 18 is behind an open store. */
    private static Reorderium marked(int[] second) {
        return marked(Due.i(10, 0, 5, 7, 4), second, Due.stop());
    }

    private static Reorderium marked(int[] store, int[] second, int[] third) {
        Reorderium core = wide(Due.i(4, 5, 6, 6, 0), Due.i(10, 0, 5, 7, 4), Due.i(9, 1, 6, 0, 4), Due.i(14, 0, 0, 0, 16));
        for (int place = 4; place < 16; place++) {
            core.add(18, 0, 0, 0, 0);
        }
        core.add(4, 5, 6, 6, 0);
        for (int[] i : new int[][] {store, second, third, Due.stop()}) {
            core.add(i[0], i[1], i[2], i[3], i[4]);
        }
        core.setRegister(6, 1);
        core.setRegister(7, 3);
        core.setTime(1, 1);
        return core;
    }

    @Holds(promise = 41, words = "If the mark of its place modulo 16 is set, and an older 10 or 11 in the buffer has not "
            + "ended, it cannot begin.")
    static void markedLoads() {
        Reorderium same = marked(Due.i(9, 2, 6, 0, 4));
        Due.runOut(same);
        due.same("the mark", same.isMarked(2), true);
        due.same("only the first one went wrong", same.early(), 1);
        due.same("the other one begins with the end of the store", same.life(6, 2), same.life(5, 3));
        Reorderium other = marked(Due.i(9, 2, 6, 0, 5));
        Due.runOut(other);
        due.same("of another address, too", other.life(6, 2), other.life(5, 3));
        Reorderium no = marked(Due.nothing(), Due.i(9, 2, 6, 0, 4), Due.stop());
        Due.runOut(no);
        due.same("without a store it does not wait", no.life(6, 2) < no.life(4, 3), true);
        Reorderium ended = marked(Due.i(10, 0, 6, 5, 9), Due.i(9, 2, 6, 0, 4), Due.stop());
        Due.runOut(ended);
        due.same("nor behind one that has ended", ended.life(6, 2) + " " + (ended.life(6, 2) < ended.life(4, 3)),
                ended.life(5, 3) + " true");
    }

    @Holds(promise = 41, words = "and an older 10 or 11 in the buffer has not ended, it cannot begin.")
    static void markedLoadKeepsNoUnit() {
        Reorderium core = marked(Due.i(10, 0, 5, 7, 4), Due.i(9, 2, 6, 0, 4), Due.i(9, 3, 6, 0, 12));
        Due.runOut(core);
        due.same("a younger one, not marked, begins at once", core.life(7, 2) < core.life(6, 2), true);
        due.same("in the cycle behind its renaming", core.life(7, 2), core.life(7, 1) + 1);
    }

    @Holds(promise = 34, words = "and at most one of 9 to 11.")
    static void oneLoadOfEachKind() {
        Reorderium there = wide(Due.i(9, 1, 0, 0, 0), Due.i(19, 0, 0, 0, 0), Due.i(9, 2, 0, 0, 0), Due.i(9, 3, 0, 0, 1),
                Due.stop());
        Due.runOut(there);
        due.same("of a line that is there", there.life(3, 2) - there.life(2, 2), 1);
        Reorderium both = wide(Due.i(5, 1, 6, 6, 0), Due.i(10, 0, 0, 6, 0), Due.i(9, 2, 0, 0, 0), Due.i(9, 3, 0, 0, 0),
                Due.stop());
        both.setRegister(6, 1);
        Due.runOut(both);
        due.same("that take", both.life(3, 2) - both.life(2, 2), 1);
        Reorderium blocked = wide(Due.i(5, 1, 6, 6, 0), Due.i(11, 0, 0, 6, 0), Due.i(9, 2, 0, 0, 0), Due.i(9, 3, 0, 0, 4),
                Due.stop());
        blocked.setRegister(6, 1);
        Due.runOut(blocked);
        due.same("one that cannot begin behind an 11 keeps no unit", Due.life(blocked, 3) + " " + blocked.life(2, 2),
                "1 2 4 10 15 9");
        Reorderium full = wide(Due.i(9, 1, 0, 0, 0), Due.i(9, 2, 0, 0, 4), Due.i(9, 3, 0, 0, 8), Due.i(10, 0, 0, 0, 12),
                Due.stop());
        Due.runOut(full);
        due.same("nor one for which two lines are asked for already", full.life(3, 2), 5);
    }

    @Holds(promise = 48, words = "Of the older 10 and 11 in the buffer that have ended without a trap")
    static void storeThatIsTheOldest() {
        // By the width 1, only the quotient retires in the cycle 9; the store is the oldest one then, and has ended.
        Reorderium core = Due.program(Due.i(5, 5, 6, 6, 0), Due.i(10, 0, 0, 6, 4), Due.i(9, 1, 5, 0, 3), Due.stop());
        core.setRegister(6, 1);
        core.setWidth(1);
        core.run(9);
        due.same("the load begins, and takes its value", Due.buffer(core) + " " + core.taken(), "1e 2x 3e 1");
        due.same("no line is asked for", core.asked(), 0);
    }

    @Holds(promise = 41, words = "the mark of its place modulo 16 is set")
    static void marksOfOtherPlaces() {
        Reorderium core = marked(Due.nothing());
        Due.runOut(core);
        for (int i = 0; i < 16; i++) {
            due.same("the mark " + i, core.isMarked(i), i == 2);
        }
        Reorderium last = new Reorderium();
        last.add(14, 0, 0, 0, 61);
        for (int place = 1; place < 61; place++) {
            last.add(18, 0, 0, 0, 0);
        }
        last.add(4, 5, 6, 6, 0);
        last.add(10, 0, 5, 7, 4);
        last.add(9, 1, 6, 0, 4);
        last.setRegister(6, 1);
        last.run(60);
        due.same("the place 63 has the mark 15", last.isMarked(15) + " " + last.early(), "true 1");
        due.same("and no other one", last.isMarked(0) || last.isMarked(14), false);
    }

    @Holds(promise = 41, words = "For a 9, the address is looked at. If there is no such address, it has a delay of 1.")
    static void markedLoadWithoutAddress() {
        Reorderium core = marked(Due.i(9, 2, 6, 0, 99));
        Due.runOut(core);
        due.same("ends", Due.ends(core), "0@0 0@1 0@2 0@3 0@16 0@17 2@18");
        due.same("it does not wait for the store", core.life(6, 2) < core.life(5, 3), true);
        due.same("its delay", core.life(6, 3) - core.life(6, 2), 1);
        for (int n : new int[] {-1, 64}) {
            Reorderium edge = Due.program(Due.i(9, 1, 0, 0, n), Due.stop());
            Due.runOut(edge);
            due.same("the address " + n, Due.life(edge, 0) + " " + edge.hits(), "1 2 3 4 4 0");
        }
    }

    @Holds(promise = 48, words = "Of the older 10 and 11 in the buffer that have ended without a trap and have the same "
            + "address, the youngest one counts")
    static void youngestStoreCounts() {
        int[] first = Due.i(10, 0, 0, 6, 4);
        int[][] seconds = {{10, 0, 0, 7, 4}, {10, 0, 0, 7, 5}, {10, 0, 0, 7, 64}, {10, 0, 0, 7, 3}, {11, 0, 0, 7, 5}};
        int[] values = {3, 1, 1, 1, 1};
        for (int i = 0; i < seconds.length; i++) {
            Reorderium core = wide(Due.i(5, 5, 6, 6, 0), first, seconds[i], Due.i(9, 1, 0, 0, 4), Due.i(2, 2, 1, 1, 0),
                    Due.i(18, 0, 0, 0, 0));
            core.setRegister(6, 1);
            core.setRegister(7, 3);
            core.run(8);
            due.same("one is taken behind " + i, core.taken() + " " + core.hits(), "1 0");
            Due.runOut(core);
            due.same("its value behind " + i, core.kindAt(2) == 2 ? 1 : core.register(1), values[i]);
        }
        Reorderium younger = wide(Due.i(5, 5, 6, 6, 0), Due.i(9, 1, 0, 0, 4), Due.i(10, 0, 0, 7, 4), Due.stop());
        younger.setRegister(6, 1);
        Due.runOut(younger);
        due.same("not of a younger one", younger.taken(), 0);
    }

    @Holds(promise = 48, words = "if it is a 11, or its b is not ready, the 9 cannot begin")
    static void storesThatGiveNothing() {
        Reorderium half = wide(Due.i(5, 5, 6, 6, 0), Due.i(10, 0, 0, 6, 4), Due.i(11, 0, 0, 7, 4), Due.i(9, 1, 0, 0, 4));
        half.setRegister(6, 1);
        half.run(8);
        due.same("behind an 11", Due.buffer(half), "0x 1e 2e 3q");
        due.same("nothing is taken or asked for", half.taken() + half.asked(), 0);
        half.run(1);
        due.same("when the 11 has retired, it reads its line", Due.buffer(half), "3m");
        Reorderium unready = wide(Due.i(5, 5, 6, 6, 0), Due.i(10, 0, 0, 6, 4), Due.i(10, 0, 0, 5, 4), Due.i(9, 1, 0, 0, 4));
        unready.setRegister(6, 1);
        unready.run(8);
        due.same("behind a 10 whose b is not ready", Due.buffer(unready), "0x 1e 2e 3q");
        due.same("nothing is taken or asked for", unready.taken() + unready.asked(), 0);
    }

    @Holds(promise = 48, words = "otherwise it gets the value of this b, with a delay of 1.")
    static void storesThatGive() {
        Reorderium core = wide(Due.i(5, 5, 6, 6, 0), Due.i(10, 0, 0, 6, 63), Due.i(9, 1, 0, 0, 63), Due.i(9, 2, 0, 0, 63),
                Due.stop());
        core.setRegister(6, MIN);
        core.run(4);
        due.same("the first one", core.taken(), 1);
        Due.runOut(core);
        due.same("both", core.taken() + " " + core.hits(), "2 0");
        due.same("the values", core.register(1) + " " + core.register(2), MIN + " " + MIN);
        due.same("the lives", Due.life(core, 2) + ", " + Due.life(core, 3), "1 2 4 5 9, 1 2 5 6 9");
    }

    @Holds(promise = 42, words = "it reads its line, that is, the address divided by 4")
    static void linesOfAddresses() {
        for (int address = 0; address < 64; address++) {
            Reorderium core = Due.program(Due.i(9, 1, 0, 0, address), Due.stop());
            Due.runOut(core);
            for (int i = 0; i < 4; i++) {
                due.same("the line of " + address, core.lineAt(i), address / 4 % 4 == i ? address / 4 : -1);
            }
        }
    }

    @Holds(promise = 49, words = "if the line is there, with a delay of 2")
    static void lineIsThere() {
        Reorderium core = wide(Due.i(9, 1, 0, 0, 4), Due.i(19, 0, 0, 0, 0), Due.i(9, 2, 0, 0, 7), Due.i(9, 3, 0, 0, 8),
                Due.stop());
        Due.runOut(core);
        due.same("of the same line", core.life(2, 3) - core.life(2, 2), 2);
        due.same("of the next line", core.life(3, 3) - core.life(3, 2), 6);
        due.same("hits", core.hits(), 2001L);
    }

    @Holds(promise = 43, words = "if the line is asked for, it waits for it; otherwise, if fewer than 2 lines are asked for, "
            + "it asks for it, and waits. If 2 are, it cannot begin.")
    static void twoLinesAsked() {
        Reorderium core = wide(Due.i(9, 1, 0, 0, 0), Due.i(9, 2, 0, 0, 4), Due.i(9, 3, 0, 0, 8), Due.i(9, 4, 0, 0, 5),
                Due.i(9, 5, 0, 0, 3), Due.stop());
        due.same("none", core.asked(), 0);
        core.run(3);
        due.same("one", core.asked() + " " + Due.buffer(core), "1 0m 1q 2q 3q 4q 5e");
        core.run(1);
        due.same("two", core.asked() + " " + Due.buffer(core), "2 0m 1m 2q 3q 4q 5e");
        core.run(1);
        due.same("no third one; one waits for a line that is asked for", core.asked() + " " + Due.buffer(core),
                "2 0m 1m 2q 3m 4q 5e");
        core.run(1);
        due.same("and one more", core.asked() + " " + Due.buffer(core), "2 0m 1m 2q 3m 4m 5e");
        due.same("hits", core.hits(), 2000L);
        core.run(2);
        due.same("still", core.asked() + " " + Due.buffer(core), "2 0m 1m 2q 3m 4m 5e");
        core.run(1);
        due.same("one has come, and the third one is asked for in the same cycle", core.asked() + " " + core.lineAt(0),
                "2 0");
        due.same("hits", core.hits(), 3000L);
    }

    @Holds(promise = 42, words = "A line that is asked for comes when as many cycles have passed as its time tells, "
            + "6 at first for each line; of a line that is asked for in the cycle c, it is the cycle c plus the time.")
    static void timesOfLines() {
        for (int time : new int[] {0, 1, 2, 30}) {
            for (int line : new int[] {0, 15}) {
                Reorderium core = Due.program(Due.i(9, 1, 0, 0, 4 * line), Due.stop());
                if (time > 0) {
                    core.setTime(line, time);
                }
                int comes = 3 + (time > 0 ? time : 6);
                core.run(comes - 1);
                due.same("not yet", core.lineAt(line % 4) + " " + core.asked(), "-1 1");
                core.run(1);
                due.same("now", core.lineAt(line % 4) + " " + core.asked(), line + " 0");
                due.same("life", Due.life(core, 0), "1 2 3 " + comes + " " + comes);
            }
        }
    }

    @Holds(promise = 42, words = "Of several that come in a cycle, the one that was asked for first comes first.")
    static void twoComeInACycle() {
        int[][] lines = {{1, 5}, {5, 1}, {3, 15}, {15, 3}};
        for (int[] both : lines) {
            Reorderium core = wide(Due.i(9, 1, 0, 0, 4 * both[0]), Due.i(9, 2, 0, 0, 4 * both[1]), Due.stop());
            core.setTime(both[0], 5);
            core.setTime(both[1], 4);
            core.run(8);
            due.same("the later one is there", core.lineAt(both[0] % 4) + " " + core.asked(), both[1] + " 0");
            due.same("both have ended", Due.life(core, 0) + ", " + Due.life(core, 1), "1 2 3 8 8, 1 2 4 8 8");
        }
    }

    @Holds(promise = 42, words = "A line takes the place of the line that was there with the same number modulo 4; "
            + "at first, none is there.")
    static void linesTakePlaces() {
        Reorderium core = Due.program(Due.i(9, 1, 0, 0, 0), Due.i(19, 0, 0, 0, 0), Due.i(9, 2, 0, 0, 16),
                Due.i(19, 0, 0, 0, 0), Due.i(9, 3, 0, 0, 3), Due.i(9, 4, 0, 0, 63), Due.stop());
        for (int i = 0; i < 4; i++) {
            due.same("at first", core.lineAt(i), -1);
        }
        core.run(9);
        due.same("0", core.lineAt(0), 0);
        core.run(9);
        due.same("4 in its place", core.lineAt(0), 4);
        Due.runOut(core);
        due.same("0 was asked for again, and 15 has the last place", core.lineAt(0) + " " + core.lineAt(3), "0 15");
        due.same("the others", core.lineAt(1) + " " + core.lineAt(2), "-1 -1");
        due.same("hits", core.hits(), 4000L);
    }

    @Holds(promise = 42, words = "Stores change words, not which lines are there.")
    static void storesAndLines() {
        Reorderium core = Due.program(Due.i(9, 1, 0, 0, 4), Due.i(19, 0, 0, 0, 0), Due.i(10, 0, 0, 7, 4),
                Due.i(10, 0, 0, 7, 20), Due.i(11, 0, 0, 7, 8), Due.i(19, 0, 0, 0, 0), Due.i(9, 2, 0, 0, 4), Due.stop());
        core.setRegister(7, 5);
        Due.runOut(core);
        due.same("lines", core.lineAt(0) + " " + core.lineAt(1) + " " + core.lineAt(2), "-1 1 -1");
        due.same("the line is still there, with the new word", core.register(2) + " " + core.hits(), "5 1001");
    }

    @Holds(promise = 34, words = "A 9 that waits for a line that comes ends in this cycle.")
    static void allThatWait() {
        Reorderium core = wide(Due.i(9, 1, 0, 0, 0), Due.i(9, 2, 0, 0, 1), Due.i(9, 3, 0, 0, 4), Due.stop());
        core.setTime(1, 30);
        core.run(8);
        due.same("all wait", Due.buffer(core), "0m 1m 2m 3e");
        core.run(1);
        due.same("those that wait for another line go on waiting", Due.buffer(core), "2m 3e");
        due.same("lives", Due.life(core, 0) + ", " + Due.life(core, 1), "1 2 3 9 9, 1 2 4 9 9");
    }

    @Holds(promise = 43, words = "Lines come also for instructions that were thrown away.")
    static void linesForThrownAway() {
        Reorderium core = wide(Due.i(12, 0, 0, 0, 3), Due.i(9, 1, 0, 0, 4), Due.stop(), Due.i(19, 0, 0, 0, 0),
                Due.i(9, 2, 0, 0, 5), Due.stop());
        core.run(4);
        due.same("it is thrown away", core.thrownAway() + " " + core.asked(), "2 1");
        core.run(5);
        due.same("the line has come", core.lineAt(1) + " " + core.asked(), "1 0");
        Reorderium trap = Due.program(Due.i(20, 0, 0, 0, 0), Due.i(9, 1, 0, 0, 4));
        trap.setHandlers(-1, -1);
        trap.run(60);
        due.same("one that never began asks for nothing", trap.asked(), 0);
        Reorderium waits = wide(Due.i(13, 0, 0, 7, 2), Due.i(9, 1, 0, 0, 4), Due.i(9, 2, 0, 0, 5), Due.stop());
        waits.setRegister(7, 1);
        waits.setTime(1, 10);
        Due.runOut(waits);
        due.same("another one waits for the same line", Due.life(waits, 1) + " " + waits.hits(), "4 5 6 13 13 1000");
    }

    @Holds(promise = 45, words = "Of all that end in a cycle, the oldest is looked at first, then, if it is not thrown away, "
            + "the next one, and so on.")
    static void oldestEndsFirst() {
        Reorderium both = wide(Due.i(12, 0, 0, 0, 3), Due.i(12, 0, 0, 0, 4), Due.stop(), Due.stop(), Due.stop());
        Due.runOut(both);
        due.same("the first one throws the second one away", both.wrong() + " " + Due.ends(both), "1 0@0 0@3");
        Reorderium second = wide(Due.i(12, 0, 0, 7, 3), Due.i(12, 0, 0, 0, 4), Due.stop(), Due.stop(), Due.stop());
        second.setRegister(7, 1);
        Due.runOut(second);
        due.same("the first one is right", second.wrong() + " " + Due.ends(second), "1 0@0 0@1 0@4");
    }

    @Holds(promise = 45, words = "if this is not what was guessed, and it does not trap, it was guessed wrong.")
    static void trapsAreNotWrong() {
        for (int code = 16; code <= 17; code++) {
            for (int a : new int[] {64, -1}) {
                Reorderium core = wide(Due.i(5, 1, 6, 6, 0), Due.i(code, 0, 7, 0, 0), Due.nothing(), Due.stop());
                core.setRegister(6, 1);
                core.setRegister(7, a);
                core.run(8);
                due.same("nothing is thrown away by " + code, Due.buffer(core), "0x 1e 2e 3e");
                core.run(1);
                due.same("until it traps", Due.ends(core) + " " + core.wrong(), "0@0 3@1 0");
            }
        }
        Reorderium next = wide(Due.i(12, 0, 0, 0, 1), Due.i(13, 0, 0, 7, 2), Due.i(16, 0, 6, 0, 0), Due.stop());
        next.setRegister(6, 3);
        next.setRegister(7, 1);
        Due.runOut(next);
        due.same("one that goes to the next place is never wrong", next.wrong() + " " + next.cycle(), "0 5");
    }

    @Holds(promise = 34, words = "the two oldest instructions that wait for the bus write their results")
    static void twoWrite() {
        Reorderium core = threeForTheBus();
        core.run(9);
        due.same("two of three", core.ends() + " " + Due.buffer(core), "3 3b 4x 5e");
        due.same("the third one is not ready", core.isReady(core.inner(4)), false);
        core.run(1);
        due.same("in the next cycle it is", core.isReady(core.inner(4)), true);
        due.same("life", Due.life(core, 3), "1 2 3 10 10");
    }

    @Holds(promise = 34, words = "the two oldest instructions that wait for the bus write their results")
    static void olderOnesWriteFirst() {
        // The loads end in the cycle 10, as the quotient does; the sums, older than this, in the cycle 11.
        Reorderium core = wide(Due.i(9, 1, 0, 0, 0), Due.i(9, 2, 0, 0, 4), Due.i(2, 3, 1, 1, 0), Due.i(2, 4, 2, 2, 0),
                Due.i(5, 5, 7, 7, 0), Due.stop());
        core.setRegister(7, 1);
        core.setTime(0, 7);
        core.run(10);
        due.same("the loads write", Due.buffer(core), "2x 3x 4b 5e");
        core.run(1);
        due.same("the sums write", Due.buffer(core), "4b 5e");
        core.run(1);
        due.same("the quotient writes at last", Due.life(core, 4), "2 3 4 12 12");
    }

    @Holds(promise = 42, words = "one that traps writes 0.")
    static void trapsWriteZero() {
        Reorderium load = wide(Due.i(5, 5, 6, 6, 0), Due.i(9, 1, 0, 0, 64), Due.i(9, 2, 1, 0, 8), Due.i(9, 3, 1, 0, 11),
                Due.i(14, 0, 0, 0, 4));
        load.setRegister(1, 20);
        load.setRegister(6, 1);
        load.setHandlers(4, -1);
        load.run(5);
        due.same("0 + 8 and 0 + 11 are in one line", load.asked() + " " + Due.buffer(load), "1 0x 1e 2m 3m 4e 4e 4e");
        load.run(5);
        due.same("the line", load.lineAt(2) + " " + load.lineAt(3), "2 -1");
        due.same("the register is not written", load.register(1), 20);
        Reorderium quotient = wide(Due.i(9, 5, 0, 0, 63), Due.i(5, 1, 6, 0, 0), Due.i(9, 2, 1, 0, 8), Due.i(9, 2, 1, 0, 11));
        quotient.setRegister(1, 20);
        quotient.setRegister(6, 1);
        quotient.setTime(15, 30);
        quotient.run(10);
        due.same("of a quotient, too", quotient.asked() + " " + Due.buffer(quotient), "2 0m 1e 2m 3m");
        quotient.run(5);
        due.same("the line", quotient.lineAt(2) + " " + quotient.lineAt(3), "2 -1");
    }

    private static void refuses(String what, int many, BiConsumer<Reorderium, Integer> call) {
        Reorderium core = Due.program(Due.i(9, 1, 0, 0, 5), Due.stop());
        for (int round = 0; round < 2; round++) {
            for (int bad : new int[] {-1, many, MIN, MAX}) {
                due.raises(what + " of " + bad, ARGUMENT, () -> call.accept(core, bad));
            }
            call.accept(core, 0);
            call.accept(core, many - 1);
            Due.runOut(core);
        }
    }

    @Holds(promise = 41, words = "Throws IllegalArgumentException if there is none")
    static void noMark() {
        refuses("isMarked", 16, Reorderium::isMarked);
    }

    @Holds(promise = 42, words = "Throws IllegalArgumentException if there is none")
    static void noLine() {
        refuses("lineAt", 4, Reorderium::lineAt);
    }

    @Holds(promise = 42, words = "Returns the line, or -1.")
    static void lineZeroIsThere() {
        Reorderium core = Due.program(Due.i(9, 1, 0, 0, 0), Due.i(9, 2, 0, 0, 0), Due.stop());
        due.same("none at first", core.lineAt(0), -1);
        core.run(3);
        due.same("none while it is asked for", core.lineAt(0), -1);
        Due.runOut(core);
        due.same("the line 0", core.lineAt(0), 0);
        due.same("asked for once", core.hits(), 1000L);
    }
}
