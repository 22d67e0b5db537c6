import java.util.ArrayDeque;
import java.util.ArrayList;
import java.util.Arrays;
import java.util.Deque;
import java.util.HashMap;
import java.util.List;
import java.util.Map;
import java.util.Set;
import java.util.TreeSet;

/** The core once more, written from the document alone and held in another form, so that both can be compared. */
final class Model {
    private static final Set<Integer> WITH_D = Set.of(1, 2, 3, 4, 5, 6, 7, 8, 9, 15);
    private static final Set<Integer> SIMPLE = Set.of(1, 2, 3, 6, 7, 8, 12, 13, 16, 17);

    /** One that was fetched. */
    private static final class Op {
        int place;
        int[] code;
        int guess;
        List<Integer> returnsBehind;
        int[] mapAhead;
        int innerA;
        int innerB;
        int innerD = -1;
        int innerOld = -1;
        String where = "fetched";
        int due;
        int value;
        int trap;
        int goal;
        boolean so;
        int address = -1;
        Op from;
        int number;
        Integer[] life = new Integer[5];
    }

    private record Asked(int line, int comes) {
    }

    final List<int[]> program = new ArrayList<>();
    int width = 2;
    int mostInBuffer = 8;
    int mostInQueue = 4;
    int manyInner = 16;
    int trapHandler = -1;
    int interruptHandler = -1;
    final int[] times = new int[16];
    boolean asksInterrupt;
    int cycle;
    boolean stopped;
    int[] map = {0, 1, 2, 3, 4, 5, 6, 7};
    final int[] retiredMap = {0, 1, 2, 3, 4, 5, 6, 7};
    final int[] values = new int[24];
    final Set<Integer> ready = new TreeSet<>(List.of(0, 1, 2, 3, 4, 5, 6, 7));
    final List<Integer> free = new ArrayList<>();
    final Deque<Op> fetched = new ArrayDeque<>();
    final List<Op> buffer = new ArrayList<>();
    int place;
    boolean noFetching;
    List<Integer> returns = new ArrayList<>();
    final int[] counters = new int[16];
    final Map<Integer, Integer> table = new HashMap<>();
    final Set<Integer> marks = new TreeSet<>();
    final int[] lines = {-1, -1, -1, -1};
    final List<Asked> asked = new ArrayList<>();
    final int[] words = new int[64];
    final int[] plainRegisters = new int[8];
    final int[] plainWords = new int[64];
    int plainPlace;
    int plainKept;
    boolean plainHandled;
    boolean handled;
    int kept;
    final List<String> ends = new ArrayList<>();
    final Map<Character, Integer> lost = new HashMap<>();
    int wrong;
    int early;
    int thrownAway;
    int taken;
    long hits;
    int number;

    Model() {
        Arrays.fill(times, 6);
        Arrays.fill(counters, 1);
    }

    void begin() {
        for (int i = 8; i < manyInner; i++) {
            free.add(i);
        }
        for (int r = 0; r < 8; r++) {
            plainRegisters[r] = values[r];
        }
        System.arraycopy(words, 0, plainWords, 0, 64);
    }

    void doCycle() {
        if (stopped) {
            return;
        }
        cycle++;
        answers();
        endings();
        retiring();
        beginnings();
        renaming();
        fetching();
    }

    private void answers() {
        for (Asked one : List.copyOf(asked)) {
            if (one.comes == cycle) {
                asked.remove(one);
                lines[one.line % 4] = one.line;
                for (Op op : buffer) {
                    if (op.where.equals("m") && op.address / 4 == one.line) {
                        op.due = cycle;
                        op.where = "x";
                    }
                }
            }
        }
    }

    private void endings() {
        List<Op> ending = new ArrayList<>();
        for (Op op : buffer) {
            if (op.where.equals("x") && op.due == cycle) {
                ending.add(op);
            }
        }
        for (Op op : ending) {
            if (buffer.contains(op)) {
                end(op);
            }
        }
        int free = 2;
        for (Op op : buffer) {
            if (op.where.equals("b") && free > 0) {
                free--;
                values[op.innerD] = op.trap != 0 ? 0 : op.value;
                ready.add(op.innerD);
                op.where = "e";
                op.life[3] = cycle;
            }
        }
    }

    private void end(Op op) {
        int code = op.code[0];
        if (code == 9 && op.trap == 0 && op.from == null) {
            op.value = words[op.address];
        }
        if (WITH_D.contains(code)) {
            op.where = "b";
            return;
        }
        op.where = "e";
        op.life[3] = cycle;
        if (op.trap != 0) {
            return;
        }
        if ((code == 12 || code == 13 || code == 16 || code == 17) && op.goal != op.guess) {
            wrong++;
            throwAway(buffer.indexOf(op) + 1);
            goOn(op.goal, op.returnsBehind);
        }
        if (code == 10 || code == 11) {
            for (int i = buffer.indexOf(op) + 1; i < buffer.size(); i++) {
                Op load = buffer.get(i);
                if (load.code[0] == 9 && !load.where.equals("q") && load.trap == 0 && load.address == op.address
                        && (load.from == null || load.from.number < op.number)) {
                    early++;
                    marks.add(load.place % 16);
                    throwAway(i);
                    goOn(load.place, load.returnsBehind);
                    return;
                }
            }
        }
    }

    private void goOn(int where, List<Integer> stack) {
        place = where;
        noFetching = false;
        returns = new ArrayList<>(stack);
    }

    private void throwAway(int from) {
        fetched.clear();
        if (from >= buffer.size()) {
            return;
        }
        map = buffer.get(from).mapAhead.clone();
        while (buffer.size() > from) {
            Op youngest = buffer.remove(buffer.size() - 1);
            thrownAway++;
            if (youngest.innerD >= 0) {
                free.add(youngest.innerD);
            }
        }
    }

    private void retiring() {
        if (asksInterrupt && !handled && interruptHandler >= 0) {
            asksInterrupt = false;
            int next = plainPlace;
            ends.add("9@" + next + " 9@" + next + " []");
            throwAway(0);
            handled = true;
            kept = next;
            plainHandled = true;
            plainKept = next;
            plainPlace = interruptHandler;
            goOn(interruptHandler, List.of());
            lost.merge('i', 1, Integer::sum);
            return;
        }
        int many = 0;
        while (many < width && !buffer.isEmpty() && !stopped) {
            Op op = buffer.get(0);
            if (!op.where.equals("e")) {
                break;
            }
            if (op.trap != 0) {
                trap(op);
                if (many == 0) {
                    lost.merge('t', 1, Integer::sum);
                }
                return;
            }
            boolean isStore = op.code[0] == 10 || op.code[0] == 11;
            if (isStore && !ready.contains(op.innerB)) {
                break;
            }
            retire(op);
            many++;
        }
        if (many == 0) {
            char reason = buffer.isEmpty() ? 'f' : buffer.get(0).where.charAt(0);
            lost.merge(reason == 'e' ? 'd' : reason, 1, Integer::sum);
        }
    }

    private void trap(Op op) {
        op.life[4] = cycle;
        addEnd(op.trap, op);
        throwAway(0);
        if (handled || trapHandler < 0) {
            stopped = true;
            noFetching = true;
            returns = new ArrayList<>();
        } else {
            handled = true;
            kept = op.place + 1;
            goOn(trapHandler, List.of());
        }
    }

    private void retire(Op op) {
        op.life[4] = cycle;
        addEnd(0, op);
        buffer.remove(0);
        switch (op.code[0]) {
            case 10 -> words[op.address] = values[op.innerB];
            case 11 -> words[op.address] = (words[op.address] >>> 16 << 16) + (values[op.innerB] << 16 >>> 16);
            case 12, 13 -> {
                int i = op.place % 16;
                counters[i] = Math.max(0, Math.min(3, counters[i] + (op.so ? 1 : -1)));
            }
            case 17 -> table.put(op.place % 8, op.goal);
            case 18 -> stopped = true;
            case 21 -> {
                handled = false;
                goOn(kept, returns);
            }
            default -> {
            }
        }
        if (op.innerD >= 0) {
            retiredMap[op.code[1]] = op.innerD;
            free.add(op.innerOld);
        }
    }

    private void addEnd(int kind, Op op) {
        int at = plainPlace;
        int plainKind = plain();
        ends.add(kind + "@" + op.place + " " + plainKind + "@" + at + " " + Arrays.toString(op.life));
    }

    /** One step of the plain machine. */
    private int plain() {
        if (plainPlace >= program.size()) {
            return -1;
        }
        int[] i = program.get(plainPlace);
        int a = plainRegisters[i[2]];
        int b = plainRegisters[i[3]];
        int address = a + i[4];
        int next = plainPlace + 1;
        int trap = trapOf(i, a, b, plainHandled);
        if (trap != 0) {
            if (!plainHandled && trapHandler >= 0) {
                plainKept = next;
                plainHandled = true;
                plainPlace = trapHandler;
            }
            return trap;
        }
        switch (i[0]) {
            case 1, 2, 3, 4, 5, 6, 7, 8 -> plainRegisters[i[1]] = result(i, a, b);
            case 9 -> plainRegisters[i[1]] = plainWords[address];
            case 10 -> plainWords[address] = b;
            case 11 -> plainWords[address] = plainWords[address] & ~0xFFFF | b & 0xFFFF;
            case 15 -> plainRegisters[i[1]] = next;
            default -> {
            }
        }
        plainPlace = goalOf(i, a, b, plainPlace);
        if (i[0] == 21) {
            plainPlace = plainKept;
            plainHandled = false;
        }
        return 0;
    }

    private static int trapOf(int[] i, int a, int b, boolean isHandled) {
        return switch (i[0]) {
            case 5 -> b == 0 ? 1 : 0;
            case 9, 10, 11 -> a + i[4] < 0 || a + i[4] > 63 ? 2 : 0;
            case 16, 17 -> a < 0 || a > 63 ? 3 : 0;
            case 20 -> 4;
            case 21 -> isHandled ? 0 : 5;
            default -> 0;
        };
    }

    private static int result(int[] i, int a, int b) {
        return switch (i[0]) {
            case 1 -> i[4];
            case 2 -> a + b;
            case 3 -> a - b;
            case 4 -> a * b;
            case 5 -> (int) ((long) a / b);
            case 6 -> a & b;
            case 7 -> a ^ b;
            default -> a < b ? 1 : 0;
        };
    }

    private static int goalOf(int[] i, int a, int b, int at) {
        return switch (i[0]) {
            case 12 -> a == b ? i[4] : at + 1;
            case 13 -> a < b ? i[4] : at + 1;
            case 14, 15 -> i[4];
            case 16, 17 -> a;
            default -> at + 1;
        };
    }

    private void beginnings() {
        int simple = 2;
        int products = 1;
        int word = 1;
        boolean divides = buffer.stream().anyMatch(op -> op.code[0] == 5 && op.where.equals("x"));
        for (Op op : buffer) {
            int code = op.code[0];
            boolean needsA = code != 1;
            boolean needsB = code != 1 && (code < 9 || code == 12 || code == 13);
            if (!op.where.equals("q") || needsA && !ready.contains(op.innerA) || needsB && !ready.contains(op.innerB)) {
                continue;
            }
            if (SIMPLE.contains(code) && simple > 0) {
                simple--;
                start(op, 1);
            } else if (code == 4 && products > 0) {
                products--;
                start(op, 3);
            } else if (code == 5 && !divides) {
                divides = true;
                start(op, 6);
            } else if ((code == 10 || code == 11) && word > 0) {
                word--;
                start(op, 1);
            } else if (code == 9 && word > 0 && startLoad(op)) {
                word--;
            }
        }
    }

    private void start(Op op, int delay) {
        int a = values[op.innerA];
        int b = values[op.innerB];
        op.trap = trapOf(op.code, a, b, handled);
        op.goal = goalOf(op.code, a, b, op.place);
        op.so = op.goal == op.code[4] && (op.code[0] == 12 ? a == b : a < b);
        if (op.code[0] >= 9 && op.code[0] <= 11) {
            op.address = a + op.code[4];
        } else if (op.trap == 0) {
            op.value = result(op.code, a, b);
        }
        op.where = "x";
        op.due = cycle + delay;
        op.life[2] = cycle;
    }

    private boolean startLoad(Op op) {
        int address = values[op.innerA] + op.code[4];
        if (address < 0 || address >= 64) {
            start(op, 1);
            return true;
        }
        Op giver = null;
        for (Op older : buffer.subList(0, buffer.indexOf(op))) {
            if (older.code[0] != 10 && older.code[0] != 11) {
                continue;
            }
            if (!older.where.equals("e")) {
                if (marks.contains(op.place % 16)) {
                    return false;
                }
            } else if (older.trap == 0 && older.address == address) {
                giver = older;
            }
        }
        if (giver != null) {
            if (giver.code[0] == 11 || !ready.contains(giver.innerB)) {
                return false;
            }
            op.value = values[giver.innerB];
            op.from = giver;
            taken++;
            start(op, 1);
            return true;
        }
        int line = address / 4;
        if (lines[line % 4] == line) {
            hits++;
            start(op, 2);
            return true;
        }
        if (asked.stream().noneMatch(one -> one.line == line)) {
            if (asked.size() == 2) {
                return false;
            }
            asked.add(new Asked(line, cycle + times[line]));
            hits += 1000;
        }
        start(op, 0);
        op.where = "m";
        return true;
    }

    private void renaming() {
        for (int k = 0; k < width && !fetched.isEmpty(); k++) {
            Op op = fetched.peek();
            int code = op.code[0];
            boolean queued = code >= 1 && code <= 13 || code == 16 || code == 17;
            boolean alone = code == 19 || code == 21;
            if (buffer.size() == mostInBuffer
                    || WITH_D.contains(code) && free.isEmpty()
                    || queued && queue() == mostInQueue
                    || alone && !buffer.isEmpty()
                    || buffer.stream().anyMatch(one -> one.code[0] == 19 || one.code[0] == 21)) {
                return;
            }
            fetched.remove();
            op.mapAhead = map.clone();
            op.innerA = map[op.code[2]];
            op.innerB = map[op.code[3]];
            op.life[1] = cycle;
            if (WITH_D.contains(code)) {
                op.innerOld = map[op.code[1]];
                op.innerD = free.remove(0);
                ready.remove(op.innerD);
                map[op.code[1]] = op.innerD;
            }
            if (queued) {
                op.where = "q";
            } else {
                op.where = "e";
                op.life[3] = cycle;
                op.trap = trapOf(op.code, 0, 0, handled);
                if (code == 15) {
                    values[op.innerD] = op.place + 1;
                    ready.add(op.innerD);
                }
            }
            buffer.add(op);
        }
    }

    long queue() {
        return buffer.stream().filter(op -> op.where.equals("q")).count();
    }

    private void fetching() {
        for (int k = 0; k < width; k++) {
            if (noFetching || fetched.size() >= 2 * width || place >= program.size()) {
                return;
            }
            Op op = new Op();
            op.place = place;
            op.code = program.get(place);
            op.number = number++;
            op.life[0] = cycle;
            op.guess = guess(op);
            op.returnsBehind = new ArrayList<>(returns);
            fetched.add(op);
            noFetching = op.code[0] == 18 || op.code[0] == 21;
            place = op.guess;
            if (op.guess != op.place + 1) {
                return;
            }
        }
    }

    private int guess(Op op) {
        int next = op.place + 1;
        switch (op.code[0]) {
            case 12, 13:
                return counters[op.place % 16] >= 2 ? op.code[4] : next;
            case 14:
                return op.code[4];
            case 15:
                returns.add(next);
                if (returns.size() > 4) {
                    returns.remove(0);
                }
                return op.code[4];
            case 16:
                return returns.isEmpty() ? next : returns.remove(returns.size() - 1);
            case 17:
                return table.getOrDefault(op.place % 8, next);
            default:
                return next;
        }
    }

    /** All that can be asked, as a text. */
    String look() {
        StringBuilder text = new StringBuilder();
        text.append("cycle ").append(cycle).append(stopped ? " stopped" : "").append("\nends ").append(ends);
        text.append("\nkept ").append(handled ? kept : "-").append("\nregisters");
        for (int r = 0; r < 8; r++) {
            text.append(' ').append(values[retiredMap[r]]).append('/').append(plainRegisters[r]);
        }
        text.append("\nwords");
        for (int i = 0; i < 64; i++) {
            text.append(' ').append(words[i]).append('/').append(plainWords[i]);
        }
        text.append("\nmap ").append(Arrays.toString(map)).append("\ninner");
        for (int i = 0; i < manyInner; i++) {
            int inner = i;
            boolean isTold = Arrays.stream(map).anyMatch(one -> one == inner);
            text.append(' ').append(free.contains(i) ? 'f' : isTold ? 'm' : 'w').append(ready.contains(i) ? "+" : "-");
        }
        text.append("\nfree ").append(free).append("\nbuffer");
        for (Op op : buffer) {
            text.append(' ').append(op.place).append(op.where);
        }
        text.append("\nqueue ").append(queue()).append("\nfetched ").append(fetched.size());
        text.append(" at ").append(noFetching ? "-" : place).append("\nreturns");
        for (int i = returns.size() - 1; i >= 0; i--) {
            text.append(' ').append(returns.get(i));
        }
        text.append("\ncounters ").append(Arrays.toString(counters)).append("\nmarks ").append(marks);
        text.append("\nlines ").append(Arrays.toString(lines)).append(" asked ").append(asked.size()).append("\nlost");
        for (char reason : "itfqxmbd".toCharArray()) {
            text.append(' ').append(reason).append(lost.getOrDefault(reason, 0));
        }
        text.append("\ncounts ").append(wrong).append(' ').append(early).append(' ').append(thrownAway);
        text.append(' ').append(taken).append(' ').append(hits);
        text.append(' ').append(cycle == 0 ? "-" : "" + (float) ends.size() / (float) cycle);
        return text.toString();
    }

    /** The same text, told by the class. */
    static String look(Reorderium core) {
        StringBuilder text = new StringBuilder();
        text.append("cycle ").append(core.cycle()).append(core.hasStopped() ? " stopped" : "");
        List<String> ends = new ArrayList<>();
        for (int i = 0; i < core.ends(); i++) {
            List<String> life = new ArrayList<>();
            for (int what = 0; what < 5 && core.kindAt(i) != 9; what++) {
                life.add(cycleOf(core, i, what));
            }
            ends.add(core.kindAt(i) + "@" + core.placeAt(i) + " " + core.kindByPlain(i) + "@" + core.placeByPlain(i)
                    + " " + life);
        }
        text.append("\nends ").append(ends).append("\nkept ").append(keptOf(core)).append("\nregisters");
        for (int r = 0; r < 8; r++) {
            text.append(' ').append(core.register(r)).append('/').append(core.registerByPlain(r));
        }
        text.append("\nwords");
        for (int i = 0; i < 64; i++) {
            text.append(' ').append(core.word(i)).append('/').append(core.wordByPlain(i));
        }
        int[] map = new int[8];
        for (int r = 0; r < 8; r++) {
            map[r] = core.inner(r) == core.innerAnew(r) ? core.inner(r) : -99;
        }
        text.append("\nmap ").append(Arrays.toString(map)).append("\ninner");
        for (int i = 0; isInner(core, i); i++) {
            text.append(' ').append(core.stateOf(i)).append(core.isReady(i) ? "+" : "-");
        }
        text.append("\nfree [").append(Due.freeLine(core).replace(" ", ", ")).append("]\nbuffer");
        for (int i = 0; i < core.inBuffer(); i++) {
            text.append(' ').append(core.bufferAt(i)).append(core.stageAt(i));
        }
        text.append("\nqueue ").append(core.inQueue()).append("\nfetched ").append(core.fetched());
        text.append(" at ").append(fetchingOf(core)).append("\nreturns");
        for (int i = 0; i < core.returns(); i++) {
            text.append(' ').append(core.returnAt(i));
        }
        lookAtRows(core, text);
        for (char reason : "itfqxmbd".toCharArray()) {
            text.append(' ').append(reason).append(core.lost(reason));
        }
        text.append("\ncounts ").append(core.wrong()).append(' ').append(core.early()).append(' ');
        text.append(core.thrownAway()).append(' ').append(core.taken()).append(' ').append(core.hits());
        text.append(' ').append(core.cycle() == 0 ? "-" : "" + core.share());
        return text.toString();
    }

    private static void lookAtRows(Reorderium core, StringBuilder text) {
        int[] counters = new int[16];
        List<Integer> marks = new ArrayList<>();
        for (int i = 0; i < 16; i++) {
            counters[i] = core.counter(i);
            if (core.isMarked(i)) {
                marks.add(i);
            }
        }
        int[] lines = new int[4];
        for (int i = 0; i < 4; i++) {
            lines[i] = core.lineAt(i);
        }
        text.append("\ncounters ").append(Arrays.toString(counters)).append("\nmarks ").append(marks);
        text.append("\nlines ").append(Arrays.toString(lines)).append(" asked ").append(core.asked()).append("\nlost");
    }

    private static boolean isInner(Reorderium core, int inner) {
        try {
            core.stateOf(inner);
            return true;
        } catch (IndexOutOfBoundsException none) {
            return false;
        }
    }

    private static String cycleOf(Reorderium core, int end, int what) {
        try {
            return "" + core.life(end, what);
        } catch (java.util.NoSuchElementException none) {
            return "null";
        }
    }

    private static String keptOf(Reorderium core) {
        try {
            return "" + core.kept();
        } catch (java.util.NoSuchElementException none) {
            return "-";
        }
    }

    private static String fetchingOf(Reorderium core) {
        try {
            return "" + core.fetching();
        } catch (java.util.NoSuchElementException none) {
            return "-";
        }
    }
}
