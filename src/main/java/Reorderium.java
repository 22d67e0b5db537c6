import java.util.ArrayList;
import java.util.NoSuchElementException;

/** An out-of-order core, and beside it the plain machine that says what must come out. */
public final class Reorderium {
    private static final int REGISTERS = 8;
    private static final int WORDS = 64;
    private static final int PLACES = 64;
    private static final int LINES = 16;
    private static final int LINE_ROOMS = 4;
    private static final int WORDS_OF_LINE = 4;
    private static final int MOST_ASKED = 2;
    private static final int COUNTERS = 16;
    private static final int MARKS = 16;
    private static final int TABLE = 8;
    private static final int MOST_RETURNS = 4;
    private static final int FEWEST_INNER = 10;
    private static final int MOST_INNER = 24;
    private static final int BUS_WRITES = 2;
    private static final int LAST_CYCLE = 500;
    private static final int MOST_CYCLES_OF_RUN = 60;
    private static final int NONE = -1;

    private static final int LAST_CODE = 21;
    private static final int PUT = 1;
    private static final int SUM = 2;
    private static final int DIFFERENCE = 3;
    private static final int PRODUCT = 4;
    private static final int QUOTIENT = 5;
    private static final int AND = 6;
    private static final int XOR = 7;
    private static final int IS_LESS = 8;
    private static final int LOAD = 9;
    private static final int STORE = 10;
    private static final int STORE_HALF = 11;
    private static final int IF_SAME = 12;
    private static final int IF_LESS = 13;
    private static final int GO = 14;
    private static final int CALL = 15;
    private static final int RETURN = 16;
    private static final int LEAP = 17;
    private static final int STOP = 18;
    private static final int ALONE = 19;
    private static final int TRAP = 20;
    private static final int GO_BACK = 21;

    private static final int DIVISOR_TRAP = 1;
    private static final int ADDRESS_TRAP = 2;
    private static final int PLACE_TRAP = 3;
    private static final int ASKED_TRAP = 4;
    private static final int HANDLING_TRAP = 5;
    private static final int INTERRUPT = 9;

    private static final int FETCHED = 0;
    private static final int RENAMED = 1;
    private static final int BEGUN = 2;
    private static final int ENDED = 3;
    private static final int GONE = 4;
    private static final int PARTS_OF_LIFE = 5;

    private static final char IN_QUEUE = 'q';
    private static final char IN_DELAY = 'x';
    private static final char FOR_LINE = 'm';
    private static final char FOR_BUS = 'b';
    private static final char HAS_ENDED = 'e';
    private static final String REASONS = "itfqxmbd";

    private static final int SIMPLE_UNIT = 0;
    private static final int PRODUCT_UNIT = 1;
    private static final int QUOTIENT_UNIT = 2;
    private static final int WORD_UNIT = 3;
    private static final int UNITS = 4;

    private final Core core = new Core();

    public Reorderium() {
    }

    public int add(int code, int d, int a, int b, int n) throws IllegalArgumentException, IllegalStateException {
        boolean isJump = code >= IF_SAME && code <= CALL;
        if (code < 0 || code > LAST_CODE || !isRegister(d) || !isRegister(a) || !isRegister(b)
                || isJump && !isPlace(n)) {
            throw new IllegalArgumentException();
        }
        int place = core.program.size();
        if (core.cycle > 0 || place >= PLACES) {
            throw new IllegalStateException();
        }
        core.program.add(new Instruction(place, code, d, a, b, n));
        return place;
    }

    public int setRegister(int register, int value) throws IllegalArgumentException, IllegalStateException {
        if (!isRegister(register)) {
            throw new IllegalArgumentException();
        }
        if (core.cycle > 0) {
            throw new IllegalStateException();
        }
        int before = core.plain.registers[register];
        core.plain.registers[register] = value;
        core.inner.values[register] = value;
        return before;
    }

    public int setWord(int address, int value) throws IllegalArgumentException, IllegalStateException {
        if (!isAddress(address)) {
            throw new IllegalArgumentException();
        }
        if (core.cycle > 0) {
            throw new IllegalStateException();
        }
        int before = core.words[address];
        core.plain.words[address] = value;
        core.words[address] = value;
        return before;
    }

    public int setWidth(int width) throws IllegalArgumentException, IllegalStateException {
        if (width < 1 || width > 4) {
            throw new IllegalArgumentException();
        }
        if (core.cycle > 0) {
            throw new IllegalStateException();
        }
        int before = core.settings.width;
        core.settings.width = width;
        return before;
    }

    public int setBuffer(int many) throws IllegalArgumentException, IllegalStateException {
        if (many < 4 || many > 16) {
            throw new IllegalArgumentException();
        }
        if (core.cycle > 0) {
            throw new IllegalStateException();
        }
        int before = core.settings.mostInBuffer;
        core.settings.mostInBuffer = many;
        return before;
    }

    public int setQueue(int many) throws IllegalArgumentException, IllegalStateException {
        if (many < 2 || many > 8) {
            throw new IllegalArgumentException();
        }
        if (core.cycle > 0) {
            throw new IllegalStateException();
        }
        int before = core.settings.mostInQueue;
        core.settings.mostInQueue = many;
        return before;
    }

    public int setInner(int many) throws IllegalArgumentException, IllegalStateException {
        if (many < FEWEST_INNER || many > MOST_INNER) {
            throw new IllegalArgumentException();
        }
        if (core.cycle > 0) {
            throw new IllegalStateException();
        }
        int before = core.inner.many;
        core.inner.fillLine(many);
        return before;
    }

    public int setHandlers(int traps, int interrupts) throws IllegalArgumentException, IllegalStateException {
        if (!isHandler(traps) || !isHandler(interrupts)) {
            throw new IllegalArgumentException();
        }
        if (core.cycle > 0) {
            throw new IllegalStateException();
        }
        int before = 64 * core.settings.traps + core.settings.interrupts;
        core.settings.traps = traps;
        core.settings.interrupts = interrupts;
        return before;
    }

    public int setTime(int line, int cycles) throws IllegalArgumentException {
        if (line < 0 || line >= LINES || cycles < 1 || cycles > 30) {
            throw new IllegalArgumentException();
        }
        int before = core.lines.times[line];
        core.lines.times[line] = cycles;
        return before;
    }

    public boolean interrupt() {
        boolean before = core.wantsInterrupt;
        core.wantsInterrupt = true;
        return before;
    }

    public int run(int cycles) throws IllegalArgumentException, IllegalStateException {
        if (cycles < 1 || cycles > MOST_CYCLES_OF_RUN || core.cycle + cycles > LAST_CYCLE) {
            throw new IllegalArgumentException();
        }
        if (core.stopped) {
            throw new IllegalStateException();
        }
        int before = core.ends.size();
        for (int i = 0; i < cycles && !core.stopped; i++) {
            core.doCycle();
        }
        return core.ends.size() - before;
    }

    public int cycle() {
        return core.cycle;
    }

    public boolean hasStopped() {
        return core.stopped;
    }

    public int ends() {
        return core.ends.size();
    }

    public int kindAt(int end) throws IndexOutOfBoundsException {
        if (!isEnd(end)) {
            throw new IndexOutOfBoundsException();
        }
        return core.ends.get(end).kind;
    }

    public int placeAt(int end) throws IndexOutOfBoundsException {
        if (!isEnd(end)) {
            throw new IndexOutOfBoundsException();
        }
        return core.ends.get(end).place;
    }

    public int kindByPlain(int end) throws IndexOutOfBoundsException {
        if (!isEnd(end)) {
            throw new IndexOutOfBoundsException();
        }
        return core.ends.get(end).plainKind;
    }

    public int placeByPlain(int end) throws IndexOutOfBoundsException {
        if (!isEnd(end)) {
            throw new IndexOutOfBoundsException();
        }
        return core.ends.get(end).plainPlace;
    }

    public int register(int register) throws IllegalArgumentException {
        if (!isRegister(register)) {
            throw new IllegalArgumentException();
        }
        return core.inner.valueOf(core.inner.retired[register]);
    }

    public int registerByPlain(int register) throws IllegalArgumentException {
        if (!isRegister(register)) {
            throw new IllegalArgumentException();
        }
        return core.plain.registers[register];
    }

    public int word(int address) throws IllegalArgumentException {
        if (!isAddress(address)) {
            throw new IllegalArgumentException();
        }
        return core.words[address];
    }

    public int wordByPlain(int address) throws IllegalArgumentException {
        if (!isAddress(address)) {
            throw new IllegalArgumentException();
        }
        return core.plain.words[address];
    }

    public int kept() throws NoSuchElementException {
        if (!core.handling) {
            throw new NoSuchElementException();
        }
        return core.keptPlace;
    }

    public int life(int end, int what)
            throws IndexOutOfBoundsException, IllegalArgumentException, NoSuchElementException {
        if (!isEnd(end)) {
            throw new IndexOutOfBoundsException();
        }
        if (what < 0 || what >= PARTS_OF_LIFE) {
            throw new IllegalArgumentException();
        }
        int then = core.ends.get(end).parts[what];
        if (then == NONE) {
            throw new NoSuchElementException();
        }
        return then;
    }

    public int inner(int register) throws IllegalArgumentException {
        if (!isRegister(register)) {
            throw new IllegalArgumentException();
        }
        return core.inner.map[register];
    }

    public int innerAnew(int register) throws IllegalArgumentException {
        if (!isRegister(register)) {
            throw new IllegalArgumentException();
        }
        return core.findInner(register);
    }

    public char stateOf(int inner) throws IndexOutOfBoundsException {
        if (!isInner(inner)) {
            throw new IndexOutOfBoundsException();
        }
        if (core.inner.timesInLine(inner) > 0) {
            return 'f';
        }
        return core.inner.isInMap(inner) ? 'm' : 'w';
    }

    public boolean isReady(int inner) throws IndexOutOfBoundsException {
        if (!isInner(inner)) {
            throw new IndexOutOfBoundsException();
        }
        return core.inner.hasValue(inner);
    }

    public int free() {
        return core.inner.inLine;
    }

    public int freeAt(int index) throws IndexOutOfBoundsException {
        if (index < 0 || index >= core.inner.inLine) {
            throw new IndexOutOfBoundsException();
        }
        return core.inner.line[index];
    }

    public int inBuffer() {
        return core.buffer.size();
    }

    public int bufferAt(int index) throws IndexOutOfBoundsException {
        if (index < 0 || index >= core.buffer.size()) {
            throw new IndexOutOfBoundsException();
        }
        return core.buffer.get(index).what.place;
    }

    public char stageAt(int index) throws IndexOutOfBoundsException {
        if (index < 0 || index >= core.buffer.size()) {
            throw new IndexOutOfBoundsException();
        }
        return core.buffer.get(index).stage;
    }

    public int inQueue() {
        return core.countQueue();
    }

    public int fetched() {
        return core.front.line.size();
    }

    public int fetching() throws NoSuchElementException {
        if (core.front.halted) {
            throw new NoSuchElementException();
        }
        return core.front.place;
    }

    public int returns() {
        return core.front.stack.length;
    }

    public int returnAt(int index) throws IndexOutOfBoundsException {
        int[] stack = core.front.stack;
        if (index < 0 || index >= stack.length) {
            throw new IndexOutOfBoundsException();
        }
        return stack[stack.length - 1 - index];
    }

    public int counter(int index) throws IllegalArgumentException {
        if (index < 0 || index >= COUNTERS) {
            throw new IllegalArgumentException();
        }
        return core.front.counters[index];
    }

    public boolean isMarked(int index) throws IllegalArgumentException {
        if (index < 0 || index >= MARKS) {
            throw new IllegalArgumentException();
        }
        return core.marks[index];
    }

    public int lineAt(int index) throws IllegalArgumentException {
        if (index < 0 || index >= LINE_ROOMS) {
            throw new IllegalArgumentException();
        }
        return core.lines.there[index];
    }

    public int asked() {
        return core.lines.waited;
    }

    public int lost(char reason) throws IllegalArgumentException {
        int index = indexOfReason(reason);
        if (index == NONE) {
            throw new IllegalArgumentException();
        }
        return core.counts.losses[index];
    }

    public int wrong() {
        return core.counts.wrongGuesses;
    }

    public int early() {
        return core.counts.earlyLoads;
    }

    public int thrownAway() {
        return core.counts.outOfBuffer;
    }

    public int taken() {
        return core.counts.takenValues;
    }

    public long hits() {
        return core.counts.linesThere + 1000L * core.counts.linesAsked;
    }

    public float share() throws NoSuchElementException {
        if (core.cycle == 0) {
            throw new NoSuchElementException();
        }
        return (float) core.ends.size() / (float) core.cycle;
    }

    public boolean isSame() {
        return core.hasSameEnds() && core.hasSameState();
    }

    public boolean isWhole() {
        for (int i = 0; i < core.inner.many; i++) {
            int times = core.inner.timesInLine(i);
            boolean isUsed = core.isUsed(i);
            if (times > 1 || isUsed == (times == 1)) {
                return false;
            }
        }
        return true;
    }

    private boolean isEnd(int end) {
        return end >= 0 && end < core.ends.size();
    }

    private boolean isInner(int inner) {
        return inner >= 0 && inner < core.inner.many;
    }

    private static boolean isRegister(int register) {
        return register >= 0 && register < REGISTERS;
    }

    private static boolean isAddress(int address) {
        return address >= 0 && address < WORDS;
    }

    private static boolean isPlace(int place) {
        return place >= 0 && place < PLACES;
    }

    private static boolean isHandler(int place) {
        return place == NONE || isPlace(place);
    }

    private static int[] newLife() {
        int[] parts = new int[PARTS_OF_LIFE];
        for (int i = 0; i < PARTS_OF_LIFE; i++) {
            parts[i] = NONE;
        }
        return parts;
    }

    private static int indexOfReason(char reason) {
        for (int i = 0; i < REASONS.length(); i++) {
            if (REASONS.charAt(i) == reason) {
                return i;
            }
        }
        return NONE;
    }

    /** An instruction of the program, and what it does with given values of its registers. */
    private static final class Instruction {
        final int place;
        final int code;
        final int d;
        final int a;
        final int b;
        final int n;

        Instruction(int place, int code, int d, int a, int b, int n) {
            this.place = place;
            this.code = code;
            this.d = d;
            this.a = a;
            this.b = b;
            this.n = n;
        }

        boolean hasResult() {
            return code >= PUT && code <= LOAD || code == CALL;
        }

        boolean isForQueue() {
            return code >= PUT && code <= IF_LESS || isLeap();
        }

        boolean isStore() {
            return code == STORE || code == STORE_HALF;
        }

        boolean isQuestion() {
            return code == IF_SAME || code == IF_LESS;
        }

        boolean isLeap() {
            return code == RETURN || code == LEAP;
        }

        boolean standsAlone() {
            return code == ALONE || code == GO_BACK;
        }

        boolean endsFetching() {
            return code == STOP || code == GO_BACK;
        }

        boolean needsA() {
            return code != PUT;
        }

        boolean needsB() {
            return code >= SUM && code <= IS_LESS || isQuestion();
        }

        int unit() {
            switch (code) {
                case PRODUCT:
                    return PRODUCT_UNIT;
                case QUOTIENT:
                    return QUOTIENT_UNIT;
                case LOAD:
                case STORE:
                case STORE_HALF:
                    return WORD_UNIT;
                default:
                    return SIMPLE_UNIT;
            }
        }

        int delay() {
            if (code == PRODUCT) {
                return 3;
            }
            return code == QUOTIENT ? 6 : 1;
        }

        /** The trap by the values alone, or 0; a 21 needs to know more. */
        int trapBy(int x, int y) {
            switch (code) {
                case QUOTIENT:
                    return y == 0 ? DIVISOR_TRAP : 0;
                case LOAD:
                case STORE:
                case STORE_HALF:
                    return isAddress(x + n) ? 0 : ADDRESS_TRAP;
                case RETURN:
                case LEAP:
                    return isPlace(x) ? 0 : PLACE_TRAP;
                case TRAP:
                    return ASKED_TRAP;
                default:
                    return 0;
            }
        }

        /** What d becomes, but for a load, which needs a word. */
        int resultBy(int x, int y) {
            switch (code) {
                case PUT:
                    return n;
                case SUM:
                    return x + y;
                case DIFFERENCE:
                    return x - y;
                case PRODUCT:
                    return x * y;
                case QUOTIENT:
                    return y == 0 ? 0 : x / y;
                case AND:
                    return x & y;
                case XOR:
                    return x ^ y;
                case IS_LESS:
                    return x < y ? 1 : 0;
                case CALL:
                    return place + 1;
                default:
                    return 0;
            }
        }

        boolean isSo(int x, int y) {
            return code == IF_SAME ? x == y : x < y;
        }

        /** Where it goes when it does not trap; a 21 needs to know more. */
        int goesBy(int x, int y) {
            if (isQuestion()) {
                return isSo(x, y) ? n : place + 1;
            }
            if (isLeap()) {
                return x;
            }
            return code == GO || code == CALL ? n : place + 1;
        }

        int changedWord(int word, int y) {
            return code == STORE ? y : word & 0xFFFF0000 | y & 0xFFFF;
        }
    }

    /** An instruction that was fetched, until it is gone. */
    private static final class Entry {
        final Instruction what;
        /** Rises with each one that is fetched: the younger one has the greater order. */
        final int order;
        final int guess;
        /** The stack of returns when this one had just been fetched; no change is ever made inside of it. */
        final int[] stack;
        final int[] parts = newLife();
        char stage = IN_QUEUE;
        int innerA = NONE;
        int innerB = NONE;
        int innerD = NONE;
        int innerBefore = NONE;
        int endsIn = NONE;
        int address = NONE;
        int trap = 0;
        int value = 0;
        int goesTo;
        boolean isSo = false;
        int giver = NONE;

        Entry(Instruction what, int order, int guess, int[] stack) {
            this.what = what;
            this.order = order;
            this.guess = guess;
            this.stack = stack;
            this.goesTo = what.goesBy(0, 0);
        }

        boolean isEndedStore() {
            return what.isStore() && stage == HAS_ENDED;
        }

        void compute(int x, int y) {
            trap = what.trapBy(x, y);
            value = trap == 0 ? what.resultBy(x, y) : 0;
            goesTo = what.goesBy(x, y);
            isSo = what.isQuestion() && what.isSo(x, y);
            address = what.unit() == WORD_UNIT && trap == 0 ? x + what.n : NONE;
        }

        void beginWith(int delay, int cycle) {
            stage = IN_DELAY;
            endsIn = cycle + delay;
            parts[BEGUN] = cycle;
        }

        void endIn(int cycle) {
            stage = HAS_ENDED;
            parts[ENDED] = cycle;
        }
    }

    /** An instruction that retired, a trap, or an interrupt. */
    private static final class End {
        final int kind;
        final int place;
        final int plainKind;
        final int plainPlace;
        final int[] parts;

        End(int kind, int place, int plainKind, int plainPlace, int[] parts) {
            this.kind = kind;
            this.place = place;
            this.plainKind = plainKind;
            this.plainPlace = plainPlace;
            this.parts = parts;
        }
    }

    /** What is told ahead of the first cycle, but for the inner registers. */
    private static final class Settings {
        int width = 2;
        int mostInBuffer = 8;
        int mostInQueue = 4;
        int traps = NONE;
        int interrupts = NONE;
    }

    /** What is counted. */
    private static final class Counts {
        final int[] losses = new int[REASONS.length()];
        int wrongGuesses = 0;
        int earlyLoads = 0;
        int outOfBuffer = 0;
        int takenValues = 0;
        int linesThere = 0;
        int linesAsked = 0;

        void lose(char reason) {
            int index = indexOfReason(reason);
            if (index != NONE) {
                losses[index]++;
            }
        }
    }

    /** The plain machine, which does one instruction after the other. */
    private static final class Plain {
        final int[] registers = new int[REGISTERS];
        final int[] words = new int[WORDS];
        int place = 0;
        boolean handling = false;
        int keptPlace = 0;

        /** Does the instruction at its place; answers 0, the trap, or -1 if there is none. */
        int doOne(ArrayList<Instruction> program, int handler) {
            if (place < 0 || place >= program.size()) {
                return NONE;
            }
            Instruction what = program.get(place);
            int x = registers[what.a];
            int y = registers[what.b];
            int trap = what.trapBy(x, y);
            if (what.code == GO_BACK && !handling) {
                trap = HANDLING_TRAP;
            }
            if (trap != 0) {
                goToTraps(handler);
                return trap;
            }
            int next = what.goesBy(x, y);
            int address = x + what.n;
            if (what.code == LOAD && isAddress(address)) {
                registers[what.d] = words[address];
            } else if (what.isStore() && isAddress(address)) {
                words[address] = what.changedWord(words[address], y);
            } else if (what.code == GO_BACK) {
                next = keptPlace;
                handling = false;
            } else if (what.hasResult()) {
                registers[what.d] = what.resultBy(x, y);
            }
            place = next;
            return 0;
        }

        private void goToTraps(int handler) {
            if (!handling && handler != NONE) {
                keptPlace = place + 1;
                handling = true;
                place = handler;
            }
        }

        void goToInterrupts(int handler) {
            keptPlace = place;
            handling = true;
            place = handler;
        }
    }

    /** The inner registers, the maps to them, and the line of the free ones. */
    private static final class InnerRegisters {
        final int[] map = new int[REGISTERS];
        final int[] retired = new int[REGISTERS];
        final int[] values = new int[MOST_INNER];
        final boolean[] ready = new boolean[MOST_INNER];
        final int[] line = new int[MOST_INNER];
        int inLine = 0;
        int many = 0;

        InnerRegisters() {
            for (int i = 0; i < REGISTERS; i++) {
                map[i] = i;
                retired[i] = i;
                ready[i] = true;
            }
            fillLine(16);
        }

        void fillLine(int newMany) {
            many = newMany;
            inLine = 0;
            for (int i = REGISTERS; i < many; i++) {
                putBehind(i);
            }
        }

        int valueOf(int inner) {
            return inner >= 0 && inner < MOST_INNER ? values[inner] : 0;
        }

        boolean hasValue(int inner) {
            return inner >= 0 && inner < MOST_INNER && ready[inner];
        }

        void write(int inner, int value) {
            if (inner >= 0 && inner < MOST_INNER) {
                values[inner] = value;
                ready[inner] = true;
            }
        }

        private void putBehind(int inner) {
            if (inLine < MOST_INNER) {
                line[inLine] = inner;
                inLine++;
            }
        }

        private int takeFirst() {
            int first = line[0];
            inLine--;
            for (int i = 0; i < inLine; i++) {
                line[i] = line[i + 1];
            }
            return first;
        }

        int timesInLine(int inner) {
            int times = 0;
            for (int i = 0; i < inLine; i++) {
                if (line[i] == inner) {
                    times++;
                }
            }
            return times;
        }

        boolean isInMap(int inner) {
            for (int i = 0; i < REGISTERS; i++) {
                if (map[i] == inner) {
                    return true;
                }
            }
            return false;
        }

        boolean isInRetired(int inner) {
            for (int i = 0; i < REGISTERS; i++) {
                if (retired[i] == inner) {
                    return true;
                }
            }
            return false;
        }

        void give(Entry entry) {
            Instruction what = entry.what;
            entry.innerA = map[what.a];
            entry.innerB = map[what.b];
            if (what.hasResult() && inLine > 0) {
                int given = takeFirst();
                entry.innerBefore = map[what.d];
                entry.innerD = given;
                map[what.d] = given;
                if (given >= 0 && given < MOST_INNER) {
                    ready[given] = false;
                }
            }
        }

        void settle(Entry entry) {
            if (entry.innerD != NONE) {
                retired[entry.what.d] = entry.innerD;
                putBehind(entry.innerBefore);
            }
        }

        /** Undoes a renaming; the renamings behind it must have been undone. */
        void takeBack(Entry entry) {
            if (entry.innerD != NONE) {
                map[entry.what.d] = entry.innerBefore;
                putBehind(entry.innerD);
            }
        }
    }

    /** The lines that are there and those that are asked for. */
    private static final class Lines {
        final int[] there = new int[LINE_ROOMS];
        final int[] times = new int[LINES];
        final int[] waitedLine = new int[MOST_ASKED];
        final int[] waitedCycle = new int[MOST_ASKED];
        int waited = 0;

        Lines() {
            for (int i = 0; i < LINE_ROOMS; i++) {
                there[i] = NONE;
            }
            for (int i = 0; i < LINES; i++) {
                times[i] = 6;
            }
        }

        boolean isThere(int line) {
            return there[Math.floorMod(line, LINE_ROOMS)] == line;
        }

        boolean isWaitedFor(int line) {
            for (int i = 0; i < waited; i++) {
                if (waitedLine[i] == line) {
                    return true;
                }
            }
            return false;
        }

        boolean askFor(int line, int cycle) {
            if (waited >= MOST_ASKED || line < 0 || line >= LINES) {
                return false;
            }
            waitedLine[waited] = line;
            waitedCycle[waited] = cycle + times[line];
            waited++;
            return true;
        }

        void comeIn(int cycle) {
            int still = 0;
            for (int i = 0; i < waited; i++) {
                if (waitedCycle[i] == cycle) {
                    there[Math.floorMod(waitedLine[i], LINE_ROOMS)] = waitedLine[i];
                } else {
                    waitedLine[still] = waitedLine[i];
                    waitedCycle[still] = waitedCycle[i];
                    still++;
                }
            }
            waited = still;
        }
    }

    /** Fetching, with its guesses. */
    private static final class Front {
        final ArrayList<Entry> line = new ArrayList<>();
        final int[] counters = new int[COUNTERS];
        final int[] table = new int[TABLE];
        /** The top is last; a change makes a new row, since entries keep the older ones. */
        int[] stack = new int[0];
        int place = 0;
        boolean halted = false;
        int order = 0;

        Front() {
            for (int i = 0; i < COUNTERS; i++) {
                counters[i] = 1;
            }
            for (int i = 0; i < TABLE; i++) {
                table[i] = NONE;
            }
        }

        void goOn(int newPlace, int[] newStack) {
            place = newPlace;
            stack = newStack;
            halted = false;
        }

        void fetch(ArrayList<Instruction> program, int width, int cycle) {
            for (int i = 0; i < width; i++) {
                if (halted || line.size() >= 2 * width || place < 0 || place >= program.size()) {
                    return;
                }
                Instruction what = program.get(place);
                place = guess(what);
                halted = what.endsFetching();
                Entry entry = new Entry(what, order, place, stack);
                entry.parts[FETCHED] = cycle;
                order++;
                line.add(entry);
                if (place != what.place + 1) {
                    return;
                }
            }
        }

        private int guess(Instruction what) {
            int next = what.place + 1;
            switch (what.code) {
                case IF_SAME:
                case IF_LESS:
                    return counters[Math.floorMod(what.place, COUNTERS)] >= 2 ? what.n : next;
                case GO:
                    return what.n;
                case CALL:
                    push(next);
                    return what.n;
                case RETURN:
                    return stack.length == 0 ? next : pop();
                case LEAP:
                    return guessLeap(what.place);
                default:
                    return next;
            }
        }

        private int guessLeap(int from) {
            int known = table[Math.floorMod(from, TABLE)];
            return known == NONE ? from + 1 : known;
        }

        private void push(int newTop) {
            int from = stack.length < MOST_RETURNS ? 0 : 1;
            int size = stack.length - from;
            int[] grown = new int[size + 1];
            for (int i = 0; i < size; i++) {
                grown[i] = stack[from + i];
            }
            grown[size] = newTop;
            stack = grown;
        }

        private int pop() {
            int size = stack.length - 1;
            if (size < 0) {
                return NONE;
            }
            int top = stack[size];
            int[] shrunk = new int[size];
            for (int i = 0; i < size; i++) {
                shrunk[i] = stack[i];
            }
            stack = shrunk;
            return top;
        }

        void learn(Entry entry) {
            if (entry.what.isQuestion()) {
                int index = Math.floorMod(entry.what.place, COUNTERS);
                counters[index] = entry.isSo ? Math.min(3, counters[index] + 1) : Math.max(0, counters[index] - 1);
            } else if (entry.what.code == LEAP) {
                table[Math.floorMod(entry.what.place, TABLE)] = entry.goesTo;
            }
        }
    }

    /** The core, cycle by cycle. */
    private static final class Core {
        final ArrayList<Instruction> program = new ArrayList<>();
        final Settings settings = new Settings();
        final Counts counts = new Counts();
        final Plain plain = new Plain();
        final InnerRegisters inner = new InnerRegisters();
        final Lines lines = new Lines();
        final Front front = new Front();
        final ArrayList<Entry> buffer = new ArrayList<>();
        final ArrayList<End> ends = new ArrayList<>();
        final int[] words = new int[WORDS];
        final boolean[] marks = new boolean[MARKS];
        final int[] units = new int[UNITS];
        int cycle = 0;
        boolean stopped = false;
        boolean wantsInterrupt = false;
        boolean handling = false;
        int keptPlace = 0;
        /** Where the instruction is that comes behind all ends. */
        int place = 0;

        void doCycle() {
            cycle++;
            doAnswers();
            doEndings();
            doRetiring();
            doBeginnings();
            doRenaming();
            front.fetch(program, settings.width, cycle);
        }

        private void doAnswers() {
            lines.comeIn(cycle);
            for (int i = 0; i < buffer.size(); i++) {
                Entry entry = buffer.get(i);
                if (entry.stage == FOR_LINE && !lines.isWaitedFor(entry.address / WORDS_OF_LINE)) {
                    entry.endsIn = cycle;
                }
            }
        }

        private void doEndings() {
            for (int i = 0; i < buffer.size(); i++) {
                Entry entry = buffer.get(i);
                boolean isUnderWay = entry.stage == IN_DELAY || entry.stage == FOR_LINE;
                if (isUnderWay && entry.endsIn == cycle) {
                    endDelay(entry);
                    checkGuess(entry, i);
                    checkLoads(entry, i);
                }
            }
            writeResults();
        }

        private void endDelay(Entry entry) {
            if (entry.what.code == LOAD && entry.giver == NONE && isAddress(entry.address)) {
                entry.value = words[entry.address];
            }
            if (entry.what.hasResult()) {
                entry.stage = FOR_BUS;
            } else {
                entry.endIn(cycle);
            }
        }

        private void checkGuess(Entry entry, int index) {
            boolean isGuessed = entry.what.isQuestion() || entry.what.isLeap();
            if (isGuessed && entry.trap == 0 && entry.goesTo != entry.guess) {
                counts.wrongGuesses++;
                throwAwayFrom(index + 1);
                front.goOn(entry.goesTo, entry.stack);
            }
        }

        private void checkLoads(Entry store, int index) {
            if (!store.what.isStore() || store.trap != 0) {
                return;
            }
            for (int i = index + 1; i < buffer.size(); i++) {
                Entry load = buffer.get(i);
                if (load.what.code == LOAD && load.stage != IN_QUEUE && load.address == store.address
                        && load.giver < store.order) {
                    counts.earlyLoads++;
                    marks[Math.floorMod(load.what.place, MARKS)] = true;
                    throwAwayFrom(i);
                    front.goOn(load.what.place, load.stack);
                    return;
                }
            }
        }

        private void writeResults() {
            int written = 0;
            for (int i = 0; i < buffer.size() && written < BUS_WRITES; i++) {
                Entry entry = buffer.get(i);
                if (entry.stage == FOR_BUS) {
                    inner.write(entry.innerD, entry.value);
                    entry.endIn(cycle);
                    written++;
                }
            }
        }

        private void throwAwayFrom(int index) {
            front.line.clear();
            for (int i = buffer.size() - 1; i >= index && i >= 0; i--) {
                inner.takeBack(buffer.get(i));
                buffer.remove(i);
                counts.outOfBuffer++;
            }
        }

        private void doRetiring() {
            if (wantsInterrupt && !handling && settings.interrupts != NONE) {
                takeInterrupt();
                return;
            }
            int retired = 0;
            for (int i = 0; i < settings.width && canLeave(); i++) {
                Entry oldest = buffer.get(0);
                oldest.parts[GONE] = cycle;
                addEnd(oldest.trap, oldest.what.place, oldest.parts);
                if (oldest.trap != 0) {
                    takeTrap(oldest);
                    if (retired == 0) {
                        counts.lose('t');
                    }
                    return;
                }
                buffer.remove(0);
                retireOldest(oldest);
                retired++;
            }
            if (retired == 0) {
                counts.lose(reasonOfWaiting());
            }
        }

        private boolean canLeave() {
            if (stopped || buffer.isEmpty()) {
                return false;
            }
            Entry oldest = buffer.get(0);
            if (oldest.stage != HAS_ENDED) {
                return false;
            }
            return !oldest.what.isStore() || oldest.trap != 0 || inner.hasValue(oldest.innerB);
        }

        private char reasonOfWaiting() {
            if (buffer.isEmpty()) {
                return 'f';
            }
            char stage = buffer.get(0).stage;
            return stage == HAS_ENDED ? 'd' : stage;
        }

        private void takeInterrupt() {
            addEnd(INTERRUPT, place, newLife());
            wantsInterrupt = false;
            handling = true;
            keptPlace = place;
            place = settings.interrupts;
            throwAwayFrom(0);
            front.goOn(place, new int[0]);
            counts.lose('i');
        }

        private void takeTrap(Entry entry) {
            throwAwayFrom(0);
            if (handling || settings.traps == NONE) {
                stopped = true;
            } else {
                keptPlace = entry.what.place + 1;
                handling = true;
                place = settings.traps;
            }
            front.goOn(place, new int[0]);
            front.halted = stopped;
        }

        private void retireOldest(Entry entry) {
            Instruction what = entry.what;
            place = entry.goesTo;
            inner.settle(entry);
            front.learn(entry);
            if (what.isStore() && isAddress(entry.address)) {
                words[entry.address] = what.changedWord(words[entry.address], inner.valueOf(entry.innerB));
            } else if (what.code == STOP) {
                stopped = true;
            } else if (what.code == GO_BACK) {
                handling = false;
                place = keptPlace;
                front.goOn(place, front.stack);
            }
        }

        private void addEnd(int kind, int endPlace, int[] parts) {
            int plainPlace = plain.place;
            int plainKind = INTERRUPT;
            if (kind == INTERRUPT) {
                plain.goToInterrupts(settings.interrupts);
            } else {
                plainKind = plain.doOne(program, settings.traps);
            }
            ends.add(new End(kind, endPlace, plainKind, plainPlace, parts));
        }

        private void doBeginnings() {
            units[SIMPLE_UNIT] = 2;
            units[PRODUCT_UNIT] = 1;
            units[QUOTIENT_UNIT] = isDividing() ? 0 : 1;
            units[WORD_UNIT] = 1;
            for (int i = 0; i < buffer.size(); i++) {
                Entry entry = buffer.get(i);
                int unit = entry.what.unit();
                if (entry.stage == IN_QUEUE && unit >= 0 && unit < UNITS && units[unit] > 0
                        && hasOperands(entry) && canBegin(entry, i)) {
                    units[unit]--;
                }
            }
        }

        private boolean isDividing() {
            for (int i = 0; i < buffer.size(); i++) {
                Entry entry = buffer.get(i);
                if (entry.what.code == QUOTIENT && entry.stage == IN_DELAY) {
                    return true;
                }
            }
            return false;
        }

        private boolean hasOperands(Entry entry) {
            boolean hasA = !entry.what.needsA() || inner.hasValue(entry.innerA);
            boolean hasB = !entry.what.needsB() || inner.hasValue(entry.innerB);
            return hasA && hasB;
        }

        /** Lets it begin, if it can. */
        private boolean canBegin(Entry entry, int index) {
            entry.compute(inner.valueOf(entry.innerA), inner.valueOf(entry.innerB));
            if (entry.what.code == LOAD && entry.trap == 0) {
                return canBeginLoad(entry, index);
            }
            entry.beginWith(entry.what.delay(), cycle);
            return true;
        }

        private boolean canBeginLoad(Entry load, int index) {
            if (marks[Math.floorMod(load.what.place, MARKS)] && isStoreOpenBefore(index)) {
                return false;
            }
            for (int i = index - 1; i >= 0 && i < buffer.size(); i--) {
                Entry store = buffer.get(i);
                if (store.isEndedStore() && store.trap == 0 && store.address == load.address) {
                    return canTake(load, store);
                }
            }
            int line = load.address / WORDS_OF_LINE;
            if (lines.isThere(line)) {
                counts.linesThere++;
                load.beginWith(2, cycle);
                return true;
            }
            if (!lines.isWaitedFor(line)) {
                if (!lines.askFor(line, cycle)) {
                    return false;
                }
                counts.linesAsked++;
            }
            load.beginWith(0, cycle);
            load.stage = FOR_LINE;
            return true;
        }

        private boolean isStoreOpenBefore(int index) {
            for (int i = 0; i < index && i < buffer.size(); i++) {
                Entry entry = buffer.get(i);
                if (entry.what.isStore() && entry.stage != HAS_ENDED) {
                    return true;
                }
            }
            return false;
        }

        private boolean canTake(Entry load, Entry store) {
            if (store.what.code == STORE_HALF || !inner.hasValue(store.innerB)) {
                return false;
            }
            load.value = inner.valueOf(store.innerB);
            load.giver = store.order;
            load.beginWith(1, cycle);
            counts.takenValues++;
            return true;
        }

        private void doRenaming() {
            for (int i = 0; i < settings.width; i++) {
                if (front.line.isEmpty() || !canRename(front.line.get(0).what)) {
                    return;
                }
                Entry entry = front.line.get(0);
                front.line.remove(0);
                renameFirst(entry);
            }
        }

        private boolean canRename(Instruction what) {
            if (buffer.size() >= settings.mostInBuffer) {
                return false;
            }
            if (what.hasResult() && inner.inLine == 0) {
                return false;
            }
            if (what.isForQueue() && countQueue() >= settings.mostInQueue) {
                return false;
            }
            // One that stands alone is renamed into an empty buffer, and nothing behind it: it is the oldest.
            return buffer.isEmpty() || !what.standsAlone() && !buffer.get(0).what.standsAlone();
        }

        private void renameFirst(Entry entry) {
            Instruction what = entry.what;
            inner.give(entry);
            entry.parts[RENAMED] = cycle;
            if (!what.isForQueue()) {
                entry.trap = what.code == GO_BACK && !handling ? HANDLING_TRAP : what.trapBy(0, 0);
                entry.endIn(cycle);
            }
            if (what.code == CALL) {
                inner.write(entry.innerD, what.resultBy(0, 0));
            }
            buffer.add(entry);
        }

        int countQueue() {
            int many = 0;
            for (int i = 0; i < buffer.size(); i++) {
                if (buffer.get(i).stage == IN_QUEUE) {
                    many++;
                }
            }
            return many;
        }

        int findInner(int register) {
            int found = inner.retired[register];
            for (int i = 0; i < buffer.size(); i++) {
                Entry entry = buffer.get(i);
                if (entry.what.hasResult() && entry.what.d == register) {
                    found = entry.innerD;
                }
            }
            return found;
        }

        boolean isUsed(int innerRegister) {
            for (int i = 0; i < buffer.size(); i++) {
                if (buffer.get(i).innerD == innerRegister) {
                    return true;
                }
            }
            return inner.isInMap(innerRegister) || inner.isInRetired(innerRegister);
        }

        boolean hasSameEnds() {
            for (int i = 0; i < ends.size(); i++) {
                End end = ends.get(i);
                if (end.kind != end.plainKind || end.place != end.plainPlace) {
                    return false;
                }
            }
            return true;
        }

        boolean hasSameState() {
            for (int i = 0; i < REGISTERS; i++) {
                if (inner.valueOf(inner.retired[i]) != plain.registers[i]) {
                    return false;
                }
            }
            for (int i = 0; i < WORDS; i++) {
                if (words[i] != plain.words[i]) {
                    return false;
                }
            }
            return !handling || keptPlace == plain.keptPlace;
        }
    }
}
