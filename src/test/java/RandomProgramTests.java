import java.util.Random;

/** Programs by a fixed seed: whatever the core does, it does what the plain machine does, and loses no register. */
final class RandomProgramTests {
    private static final Due due = new Due();

    public static void main(String[] args) {
        int early = 0;
        int taken = 0;
        int wrong = 0;
        for (int seed = 0; seed < 1500; seed++) {
            Reorderium core = program(new Random(seed));
            runAndLook(core, seed);
            early += core.early();
            taken += core.taken();
            wrong += core.wrong();
        }
        due.same("early, taken and wrong: " + early + " " + taken + " " + wrong,
                early > 20 && taken > 50 && wrong > 50, true);
        due.end();
    }

    private static Reorderium program(Random random) {
        Reorderium core = new Reorderium();
        core.setWidth(1 + random.nextInt(4));
        core.setBuffer(4 + random.nextInt(13));
        core.setQueue(2 + random.nextInt(7));
        core.setInner(10 + random.nextInt(15));
        int many = 5 + random.nextInt(60);
        core.setHandlers(random.nextInt(many + 1) - 1, random.nextInt(many + 1) - 1);
        for (int r = 0; r < 8; r++) {
            core.setRegister(r, random.nextInt(4) == 0 ? random.nextInt() : random.nextInt(4));
        }
        core.setRegister(6, 1);
        core.setRegister(7, 0);
        for (int line = 0; line < 16; line++) {
            core.setTime(line, 1 + random.nextInt(random.nextInt(4) == 0 ? 30 : 6));
        }
        boolean isOfWords = random.nextBoolean();
        for (int place = 0; place < many; place++) {
            if (isOfWords && random.nextInt(8) > 0) {
                addOfWords(core, random);
            } else {
                addAny(core, random, many);
            }
        }
        return core;
    }

    /** Addresses of stores that are known late, and loads that go ahead of them. */
    private static void addOfWords(Reorderium core, Random random) {
        int late = random.nextInt(2);
        int other = 2 + random.nextInt(4);
        int base = random.nextBoolean() ? late : 7;
        switch (random.nextInt(6)) {
            case 0:
                core.add(random.nextInt(4) > 0 ? 4 : 5, late, other, other, 0);
                break;
            case 1:
                core.add(6, late, late, 6, 0);
                break;
            case 2:
                core.add(random.nextInt(4) > 0 ? 10 : 11, 0, base, other, random.nextInt(2));
                break;
            case 3:
                core.add(2, other, late, 6, 0);
                break;
            default:
                core.add(9, other, 7, 0, random.nextInt(3));
                break;
        }
    }

    private static void addAny(Reorderium core, Random random, int many) {
        int code = random.nextInt(22);
        if (code == 18 && random.nextInt(4) > 0) {
            code = 14;
        }
        boolean isJump = code >= 12 && code <= 15;
        int n = isJump ? random.nextInt(Math.min(64, many + 2)) : random.nextInt(64);
        core.add(code, random.nextInt(6), random.nextInt(8), random.nextInt(8), n);
    }

    private static void runAndLook(Reorderium core, int seed) {
        Random random = new Random(~seed);
        while (!core.hasStopped() && core.cycle() < 500) {
            if (random.nextInt(12) == 0) {
                core.interrupt();
            }
            core.run(Math.min(1 + random.nextInt(9), 500 - core.cycle()));
            boolean isRight = core.isSame() && core.isWhole() && sameMaps(core) && losesAll(core);
            due.same("seed " + seed + ", cycle " + core.cycle(), isRight, true);
            if (!isRight) {
                return;
            }
        }
    }

    private static boolean sameMaps(Reorderium core) {
        for (int r = 0; r < 8; r++) {
            if (core.inner(r) != core.innerAnew(r) || core.stateOf(core.inner(r)) != 'm'
                    || core.register(r) != core.registerByPlain(r)) {
                return false;
            }
        }
        return true;
    }

    /** What was retired in the cycles that are not lost is what ended, but for traps and interrupts. */
    private static boolean losesAll(Reorderium core) {
        int lost = 0;
        for (char reason : "itfqxmbd".toCharArray()) {
            lost += core.lost(reason);
        }
        int lastCycle = 0;
        int cyclesThatRetired = 0;
        for (int i = 0; i < core.ends(); i++) {
            if (core.kindAt(i) == 0 && core.life(i, 4) != lastCycle) {
                lastCycle = core.life(i, 4);
                cyclesThatRetired++;
            }
        }
        return lost + cyclesThatRetired == core.cycle();
    }
}
