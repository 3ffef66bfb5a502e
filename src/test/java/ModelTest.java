/** Long runs of calls, always the same ones, on the program and on the model side by side. */
public final class ModelTest {
    private static final int RUNS = 150;
    private static final int CALLS = 60;

    private final Due due = new Due();
    private long seed;
    private SoundingLine x;
    private Model m;

    public static void main(String[] args) {
        ModelTest test = new ModelTest();
        for (int run = 0; run < RUNS; run++) {
            test.run(run);
        }
        test.due.end();
    }

    private void run(int number) {
        seed = number * 7919L + 17;
        x = new SoundingLine();
        m = new Model();
        for (int i = 0; i < CALLS; i++) {
            boolean wild = next(12) == 0;
            if (i < 6 || next(3) == 0) {
                build(wild);
            } else {
                ask(wild);
            }
        }
        both("digest()", () -> x.digest(), () -> m.digest());
    }

    private int next(int bound) {
        seed = seed * 6364136223846793005L + 1442695040888963407L;
        return (int) ((seed >>> 33) % bound);
    }

    /** A number from low to high; of wild calls often one that is just, or far, outside. */
    private int from(int low, int high, boolean wild) {
        if (wild && next(2) == 0) {
            int[] outside = {low - 1, high + 1, Integer.MIN_VALUE, Integer.MAX_VALUE, -1, 0};
            return outside[next(outside.length)];
        }
        return low + next(high - low + 1);
    }

    private void both(String call, Due.Call program, Due.Call model) {
        due.about(call);
        due.same(Due.told(model), Due.told(program));
    }

    private void build(boolean wild) {
        switch (next(12)) {
            case 0:
            case 1: {
                int many = from(1, 16, wild);
                int n = from(0, many >= 1 && many <= 16 ? (1 << many) - 1 : 3, wild);
                both("write(" + n + ", " + many + ")", () -> x.write(n, many), () -> m.write(n, many));
                break;
            }
            case 2:
                if (next(4) == 0) {
                    both("clear()", () -> x.clear(), () -> m.clear());
                }
                break;
            case 3:
                if (next(2) == 0) {
                    both("drop()", () -> x.drop(), () -> m.drop());
                }
                break;
            case 4:
            case 5:
            case 6:
            case 7:
                stage(wild);
                break;
            case 8:
            case 9:
                channel(wild);
                break;
            default: {
                int place = next(2) == 0 ? from(0, 319, wild) : from(0, 20, wild);
                both("mark(" + place + ")", () -> x.mark(place), () -> m.mark(place));
                break;
            }
        }
    }

    private void stage(boolean wild) {
        switch (next(5)) {
            case 0: {
                int n = from(2, 5, wild);
                both("repeat(" + n + ")", () -> x.repeat(n), () -> m.repeat(n));
                break;
            }
            case 1: {
                int k = from(1, 4, wild);
                int n = from(Math.max(1, Math.min(k, 10)), 10, wild);
                int most = n >= 1 && n <= 10 ? (1 << n) - 1 : 3;
                int p = from(0, most, wild);
                int q = from(0, most, wild || k < 2);
                int r = from(0, most, wild || k < 3);
                int s = from(0, most, wild || k < 4);
                both("block(" + k + ", " + n + ", " + p + ", " + q + ", " + r + ", " + s + ")",
                    () -> x.block(k, n, p, q, r, s), () -> m.block(k, n, p, q, r, s));
                break;
            }
            case 2: {
                int divisor = from(2, 511, wild);
                int n = from(1, 32, wild);
                both("check(" + divisor + ", " + n + ")", () -> x.check(divisor, n), () -> m.check(divisor, n));
                break;
            }
            case 3: {
                int memory = from(1, 4, wild);
                int most = memory >= 1 && memory <= 4 ? (2 << memory) - 1 : 3;
                int p = from(1, most, wild);
                int q = from(1, most, wild);
                int r = next(2) == 0 ? 0 : from(0, most, wild);
                both("trail(" + memory + ", " + p + ", " + q + ", " + r + ")",
                    () -> x.trail(memory, p, q, r), () -> m.trail(memory, p, q, r));
                break;
            }
            default: {
                int rows = from(1, 10, wild);
                int columns = from(1, 10, wild);
                both("weave(" + rows + ", " + columns + ")", () -> x.weave(rows, columns), () -> m.weave(rows, columns));
                break;
            }
        }
    }

    private void channel(boolean wild) {
        int kind = from(0, 3, wild);
        boolean bursts = kind == 2;
        int a = bursts ? from(0, 320, wild) % 40 : next(2) == 0 ? from(0, 200, wild) : from(0, 1000, wild);
        int b = bursts ? from(1, 50, wild) : from(0, 1000000, wild);
        int c = bursts ? from(Math.max(1, Math.min(b, 320)), 320, wild) : next(9) - 4;
        both("channel(" + kind + ", " + a + ", " + b + ", " + c + ")",
            () -> x.channel(kind, a, b, c), () -> m.channel(kind, a, b, c));
    }

    private void ask(boolean wild) {
        int stage = from(0, Math.max(0, m.stages() - 1), wild);
        int place = from(0, Math.max(0, m.sent() - 1), wild);
        int what = from(0, 1, wild);
        switch (next(16)) {
            case 0:
                both("length()", () -> x.length(), () -> m.length());
                break;
            case 1:
                both("stages()", () -> x.stages(), () -> m.stages());
                break;
            case 2:
            case 3: {
                int of = from(0, 4, wild);
                both("ofStage(" + stage + ", " + of + ")", () -> x.ofStage(stage, of), () -> m.ofStage(stage, of));
                break;
            }
            case 4:
                both("sent()", () -> x.sent(), () -> m.sent());
                break;
            case 5:
                both("bit(" + place + ", " + what + ")", () -> x.bit(place, what), () -> m.bit(place, what));
                break;
            case 6: {
                int written = from(0, Math.max(0, m.length() - 1), wild);
                both("told(" + written + ", " + what + ")", () -> x.told(written, what), () -> m.told(written, what));
                break;
            }
            case 7:
                both("hurt()", () -> x.hurt(), () -> m.hurt());
                break;
            case 8:
                both("errors()", () -> x.errors(), () -> m.errors());
                break;
            case 9:
                both("distance(" + stage + ")", () -> x.distance(stage), () -> m.distance(stage));
                break;
            case 10: {
                int ones = from(0, 10, wild);
                both("words(" + stage + ", " + ones + ")", () -> x.words(stage, ones), () -> m.words(stage, ones));
                break;
            }
            case 11:
                both("rate()", () -> x.rate(), () -> m.rate());
                break;
            case 12:
                both("errorsWith(" + place + ")", () -> x.errorsWith(place), () -> m.errorsWith(place));
                break;
            case 13:
                if (next(4) == 0) {
                    both("weak()", () -> x.weak(), () -> m.weak());
                }
                break;
            case 14: {
                int first = from(0, 319, wild) % 40;
                both("breaks(" + first + ")", () -> x.breaks(first), () -> m.breaks(first));
                break;
            }
            default: {
                int p = from(0, 1000, wild) / (wild ? 1 : 3);
                int runs = from(1, 20, wild);
                both("meanErrors(" + p + ", " + runs + ")", () -> x.meanErrors(p, runs), () -> m.meanErrors(p, runs));
                break;
            }
        }
    }
}
