import java.util.Random;

/** Programs by a fixed seed: in each cycle all that can be asked is what the second writing of the document tells. */
final class ModelTests {
    private static final Due due = new Due();

    private final Random random;
    private final Reorderium core = new Reorderium();
    private final Model model = new Model();
    private int many;

    private ModelTests(int seed) {
        random = new Random(seed);
    }

    public static void main(String[] args) {
        int programs = args.length > 0 ? Integer.parseInt(args[0]) : 1500;
        long[] seen = new long[6];
        for (int seed = 0; seed < programs; seed++) {
            ModelTests test = new ModelTests(seed);
            test.tell();
            test.compare(seed);
            Reorderium core = test.core;
            seen[0] += core.early();
            seen[1] += core.taken();
            seen[2] += core.wrong();
            seen[3] += core.lost('i');
            seen[4] += core.lost('t');
            seen[5] += core.hits() / 1000;
        }
        for (int i = 0; i < seen.length; i++) {
            due.same("enough of the kind " + i + " is seen: " + seen[i], seen[i] > 50, true);
        }
        due.end();
    }

    private void tell() {
        core.setWidth(model.width = 1 + random.nextInt(4));
        core.setBuffer(model.mostInBuffer = 4 + random.nextInt(13));
        core.setQueue(model.mostInQueue = 2 + random.nextInt(7));
        core.setInner(model.manyInner = 10 + random.nextInt(15));
        many = random.nextInt(12) == 0 ? 64 : 4 + random.nextInt(30);
        model.trapHandler = random.nextInt(3) == 0 ? -1 : random.nextInt(many);
        model.interruptHandler = random.nextInt(3) == 0 ? -1 : random.nextInt(many);
        core.setHandlers(model.trapHandler, model.interruptHandler);
        for (int r = 0; r < 8; r++) {
            model.values[r] = random.nextInt(4) == 0 ? random.nextInt() : random.nextInt(Math.min(many, 8));
            core.setRegister(r, model.values[r]);
        }
        setBases();
        for (int i = 0; i < 64; i++) {
            model.words[i] = random.nextInt(3) == 0 ? random.nextInt() : random.nextInt(many);
            core.setWord(i, model.words[i]);
        }
        for (int line = 0; line < 16; line++) {
            model.times[line] = 1 + random.nextInt(random.nextInt(4) == 0 ? 30 : 8);
            core.setTime(line, model.times[line]);
        }
        int kind = random.nextInt(4);
        for (int place = 0; place < many; place++) {
            int[] i = instruction(kind, place);
            model.program.add(i);
            core.add(i[0], i[1], i[2], i[3], i[4]);
        }
        model.begin();
    }

    /** Registers 1 to 3 are 0 or 1 until something late has become of them, 6 is 1, and 7 is 0. */
    private void setBases() {
        for (int r : new int[] {1, 2, 3, 6, 7}) {
            model.values[r] = r == 7 ? 0 : r == 6 ? 1 : random.nextInt(2);
            core.setRegister(r, model.values[r]);
        }
    }

    /** Addresses of stores that are known late, and loads that go ahead of them. */
    private int[] ofWords(int place) {
        int late = 1 + place / 4 % 3;
        switch (random.nextInt(8) == 0 ? random.nextInt(5) : place % 4) {
            case 0:
                return new int[] {pick(4, 4, 4, 4, 5), late, late, 6, 0};
            case 1:
                return new int[] {pick(10, 10, 10, 11), 0, pick(late, late, 7), pick(0, 4, 5, 6), random.nextInt(2)};
            case 4:
                return new int[] {pick(2, 4), pick(4, 5), pick(0, 1, 2, 4), 6, 0};
            default:
                return new int[] {9, pick(4, 5, 0), 7, 0, random.nextInt(random.nextInt(3) == 0 ? 20 : 3)};
        }
    }

    private int[] instruction(int kind, int place) {
        if (kind == 0 && place == many - 1) {
            return new int[] {14, 0, 0, 0, 0};
        }
        if (kind == 0 && random.nextInt(20) > 0) {
            return ofWords(place);
        }
        int code = random.nextInt(22);
        if (kind == 1) {
            code = pick(1, 2, 3, 7, 12, 13, 14, 15, 15, 15, 16, 16, 16, 17, 17, 9, 10, 21);
        } else if (kind == 2) {
            code = pick(1, 2, 3, 4, 5, 4, 5, 6, 7, 8, 9, 12, 13, 15, 10, 0, 19);
        }
        if (code == 18 && random.nextInt(4) > 0) {
            code = 12;
        }
        int d = kind == 0 ? 0 : random.nextInt(8);
        int a = random.nextInt(8);
        int b = random.nextInt(8);
        int n = random.nextInt(random.nextInt(8) == 0 ? 64 : many);
        if (code >= 9 && code <= 11) {
            n = random.nextInt(random.nextInt(3) == 0 ? 50 : 6);
            a = random.nextInt(8) == 0 ? a : 5 + random.nextInt(3);
        } else if (code == 16 && random.nextInt(3) > 0) {
            a = 7;
        } else if (code == 15 && random.nextInt(3) > 0) {
            d = 7;
        } else if (code == 1) {
            n = random.nextInt(8) == 0 ? random.nextInt() : random.nextInt(many);
        } else if (code == 14) {
            n = Math.min(63, place + 1 + random.nextInt(4));
        }
        return new int[] {code, d, a, b, n};
    }

    private int pick(int... codes) {
        return codes[random.nextInt(codes.length)];
    }

    private void compare(int seed) {
        due.same("seed " + seed, Model.look(core), model.look());
        while (!core.hasStopped() && core.cycle() < 500) {
            if (random.nextInt(15) == 0) {
                due.same("seed " + seed + ", interrupt", core.interrupt(), model.asksInterrupt);
                model.asksInterrupt = true;
            }
            if (random.nextInt(15) == 0) {
                int line = random.nextInt(16);
                int cycles = 1 + random.nextInt(30);
                due.same("seed " + seed + ", setTime", core.setTime(line, cycles), model.times[line]);
                model.times[line] = cycles;
            }
            int cycles = Math.min(random.nextInt(4) > 0 ? 1 : 1 + random.nextInt(12), 500 - core.cycle());
            int before = model.ends.size();
            for (int i = 0; i < cycles; i++) {
                model.doCycle();
            }
            due.same("seed " + seed + ", run", core.run(cycles), model.ends.size() - before);
            String got = Model.look(core);
            String wanted = model.look();
            due.same("seed " + seed + ", cycle " + core.cycle(), got, wanted);
            due.same("seed " + seed + ", isSame and isWhole", core.isSame() && core.isWhole(), true);
            if (!got.equals(wanted) || core.ends() > 150) {
                return;
            }
        }
    }
}
