/** The bounds of each promise that changes something: the last value that is allowed, the first that is not. */
public final class BoundsTest {
    private static final int LEAST = Integer.MIN_VALUE;
    private static final int MOST = Integer.MAX_VALUE;

    private final Due due = new Due();
    private final Twins fresh = new Twins(due, () -> new SoundingLine());
    private final Twins busy = new Twins(due, () -> busy());
    private final Twins full = new Twins(due, () -> full());
    private final Twins filledUp = new Twins(due, () -> sending320());

    public static void main(String[] args) {
        BoundsTest test = new BoundsTest();
        test.newObject();
        test.newObjectRefuses();
        test.objectsAreApart();
        test.writeMany();
        test.writeNumber();
        test.writeBehind();
        test.messageOf32();
        test.writeFor320();
        test.clear();
        test.repeat();
        test.block();
        test.blockRows();
        test.check();
        test.trail();
        test.trailMasks();
        test.weave();
        test.fourStages();
        test.sent320();
        test.sent321();
        test.drop();
        test.channelKind();
        test.channelOfPlaces();
        test.bursts();
        test.channelTellsWhatItWas();
        test.mark();
        test.firstNamedException();
        test.calls512();
        test.due.end();
    }

    /** Some of everything: 16 bits are sent, and some come hurt. */
    private static SoundingLine busy() {
        SoundingLine x = Lines.of("10110");
        x.block(2, 5, 22, 13, -1, -1);
        x.weave(2, 4);
        x.channel(1, 150, 7, 0);
        x.mark(3);
        x.mark(300);
        return x;
    }

    /** Four stages. */
    private static SoundingLine full() {
        SoundingLine x = Lines.of("1101");
        x.repeat(2);
        x.check(11, 4);
        x.trail(1, 3, 1, 0);
        x.weave(3, 3);
        x.channel(2, 3, 2, 9);
        x.mark(0);
        return x;
    }

    /** A message that is full, and 320 bits that are sent. */
    private static SoundingLine sending320() {
        SoundingLine x = Lines.of("11001010111100001010010111000011");
        x.repeat(5);
        x.repeat(2);
        x.channel(3, 200, 9, 0);
        x.mark(319);
        return x;
    }

    private static String ones(int many) {
        return "1".repeat(many);
    }

    private void newObject() {
        due.about("promise 1: empty, without stages");
        SoundingLine x = new SoundingLine();
        due.is(0, () -> x.length());
        due.is(0, () -> x.stages());
        due.is(0, () -> x.sent());
        due.is(0, () -> x.hurt());
        due.is(0, () -> x.errors());
        due.is(0.0, () -> x.rate());
        due.is(0, () -> x.weak());
        due.is(0, () -> x.breaks(0));
        due.is(0.0, () -> x.meanErrors(1000, 20));
        due.is(0, () -> x.clear());
        due.about("promise 1: nothing is marked, the channel is still");
        due.is(1, () -> x.mark(8));
        due.is(0, () -> x.mark(8));
        due.is(0, () -> x.channel(0, 0, 0, 0));
        SoundingLine y = Lines.holding(32);
        due.same("0".repeat(32), Lines.comesRow(y));
    }

    private void newObjectRefuses() {
        due.about("promise 1: there is no stage and no place");
        fresh.refuseState(x -> x.drop());
        fresh.refusePlace(x -> x.ofStage(0, 0));
        fresh.refusePlace(x -> x.distance(0));
        fresh.refusePlace(x -> x.words(0, 0));
        fresh.refusePlace(x -> x.bit(0, 0));
        fresh.refusePlace(x -> x.told(0, 0));
        fresh.refusePlace(x -> x.errorsWith(0));
    }

    private void objectsAreApart() {
        due.about("promise 1: each object has its own");
        SoundingLine x = busy();
        SoundingLine y = new SoundingLine();
        due.is(0, () -> y.stages());
        due.is(1, () -> y.mark(5));
        due.is(0, () -> y.channel(3, 5, 5, 5));
        due.is(2, () -> y.write(2, 2));
        due.is(5, () -> x.length());
        due.is(3, () -> x.mark(5));
        due.is(1, () -> x.channel(0, 0, 0, 0));
    }

    private void writeMany() {
        due.about("promise 2: many is 1 to 16");
        due.is(1, () -> new SoundingLine().write(1, 1));
        due.is(16, () -> new SoundingLine().write(1, 16));
        for (int wrong : new int[] {0, 17, -1, 31, 32, 33, LEAST, MOST}) {
            fresh.refuseArgument(x -> x.write(0, wrong));
            busy.refuseArgument(x -> x.write(1, wrong));
        }
    }

    private void writeNumber() {
        for (int i = 1; i <= 16; i++) {
            int many = i;
            int most = (1 << i) - 1;
            due.about("promise 2: n is 0 to 2^many - 1, many " + many);
            due.same("0".repeat(many), Lines.sentRow(Lines.of(0, many)));
            due.same("1".repeat(many), Lines.sentRow(Lines.of(most, many)));
            fresh.refuseArgument(x -> x.write(most + 1, many));
            fresh.refuseArgument(x -> x.write(-1, many));
        }
        busy.refuseArgument(x -> x.write(2, 1));
        busy.refuseArgument(x -> x.write(LEAST, 16));
        busy.refuseArgument(x -> x.write(MOST, 16));
    }

    private void writeBehind() {
        due.about("promise 2: behind the message, the first bit counting most");
        SoundingLine x = new SoundingLine();
        due.is(3, () -> x.write(4, 3));
        due.is(5, () -> x.write(1, 2));
        due.is(21, () -> x.write(32769, 16));
        due.same("100" + "01" + "1000000000000001", Lines.messageRow(x));
    }

    private void messageOf32() {
        due.about("promise 2: at most 32");
        for (int i = 1; i <= 16; i++) {
            int many = i;
            Twins nearly = new Twins(due, () -> Lines.of(ones(33 - many)));
            nearly.refuseState(x -> x.write(0, many));
            SoundingLine room = Lines.of(ones(32 - many));
            due.is(32, () -> room.write(0, many));
            due.same(ones(32 - many) + "0".repeat(many), Lines.messageRow(room));
            due.refusesState(() -> room.write(0, 1));
        }
        Twins whole = new Twins(due, () -> Lines.of(ones(32)));
        whole.refuseState(x -> x.write(1, 1));
        whole.refuseState(x -> x.write(1, 16));
    }

    private void writeFor320() {
        due.about("promise 2: at most 320 are sent");
        Twins tens = new Twins(due, () -> threefoldOfTens(31));
        // 32 bits would make 320, and the last weaving 321.
        tens.refuseState(x -> x.write(0, 1));
        SoundingLine even = new SoundingLine();
        even.repeat(5);
        even.repeat(2);
        even.weave(1, 2);
        due.is(16, () -> even.write(65535, 16));
        due.is(32, () -> even.write(1, 16));
        due.is(320, () -> even.sent());
        Twins early = new Twins(due, () -> twentyFive());
        early.refuseState(x -> x.write(0, 13));
        due.is(12, () -> twentyFive().write(0, 12));
        due.about("promise 2: without a message stages can be too many for one");
        SoundingLine great = new SoundingLine();
        for (int i = 0; i < 4; i++) {
            due.is(0, () -> great.block(1, 10, 1023, 0, 0, 0));
        }
        due.refusesState(() -> great.write(0, 1));
        due.is(0, () -> great.length());
        due.is(3, () -> great.drop());
        due.refusesState(() -> great.write(1, 1));
        due.is(2, () -> great.drop());
        due.is(3, () -> great.write(7, 3));
        due.refusesState(() -> great.write(0, 1));
        due.is(300, () -> great.sent());
    }

    private static SoundingLine threefoldOfTens(int many) {
        SoundingLine x = Lines.holding(many);
        x.repeat(5);
        x.repeat(2);
        x.weave(1, 3);
        return x;
    }

    private static SoundingLine twentyFive() {
        SoundingLine x = new SoundingLine();
        x.repeat(5);
        x.repeat(5);
        return x;
    }

    private void clear() {
        due.about("promise 3: how many it had");
        due.is(0, () -> new SoundingLine().clear());
        due.is(1, () -> Lines.holding(1).clear());
        due.is(32, () -> Lines.holding(32).clear());
        due.about("promise 3: the message alone");
        SoundingLine x = busy();
        due.is(5, () -> x.clear());
        due.is(0, () -> x.clear());
        due.is(0, () -> x.length());
        due.is(0, () -> x.sent());
        due.is(2, () -> x.stages());
        due.refusesPlace(() -> x.told(0, 0));
        due.refusesPlace(() -> x.bit(0, 0));
        due.is(5, () -> x.write(22, 5));
        due.is(busy().digest(), () -> x.digest());
        due.is(1, () -> x.mark(3));
        due.is(1, () -> x.channel(0, 0, 0, 0));
        SoundingLine full = Lines.of(ones(32));
        due.is(32, () -> full.clear());
        due.is(16, () -> full.write(0, 16));
        due.is(32, () -> full.write(0, 16));
        due.same("0".repeat(32), Lines.messageRow(full));
    }

    private void repeat() {
        due.about("promise 4: n is 2 to 5");
        for (int i = 2; i <= 5; i++) {
            int n = i;
            due.is(3 * n, () -> Lines.holding(3).repeat(n));
        }
        for (int wrong : new int[] {1, 6, 0, -1, -2, LEAST, MOST}) {
            fresh.refuseArgument(x -> x.repeat(wrong));
            busy.refuseArgument(x -> x.repeat(wrong));
        }
        due.is(0, () -> new SoundingLine().repeat(5));
    }

    private void block() {
        due.about("promise 5: k is 1 to 4, n is k to 10");
        for (int i = 1; i <= 4; i++) {
            int k = i;
            due.is(k, () -> Lines.holding(1).block(k, k, 1, 1, 1, 1));
            due.is(10, () -> Lines.holding(1).block(k, 10, 1, 1, 1, 1));
            fresh.refuseArgument(x -> x.block(k, k - 1, 0, 0, 0, 0));
            fresh.refuseArgument(x -> x.block(k, 11, 0, 0, 0, 0));
            busy.refuseArgument(x -> x.block(k, LEAST, 0, 0, 0, 0));
            busy.refuseArgument(x -> x.block(k, MOST, 0, 0, 0, 0));
            busy.refuseArgument(x -> x.block(k, 32 + k, 0, 0, 0, 0));
        }
        for (int wrong : new int[] {0, 5, -1, LEAST, MOST}) {
            fresh.refuseArgument(x -> x.block(wrong, 5, 0, 0, 0, 0));
            busy.refuseArgument(x -> x.block(wrong, 10, 0, 0, 0, 0));
        }
        due.is(0, () -> new SoundingLine().block(4, 10, 0, 0, 0, 0));
    }

    private void blockRows() {
        for (int k = 1; k <= 4; k++) {
            for (int n = k; n <= 10; n++) {
                for (int row = 0; row < 4; row++) {
                    due.about("promise 5: row " + row + " of " + k + ", n " + n);
                    blockRow(k, n, row, 1 << n);
                    blockRow(k, n, row, -1);
                }
            }
        }
        due.about("promise 5: rows from 0 to 2^n - 1");
        fresh.refuseArgument(x -> x.block(1, 3, LEAST, 0, 0, 0));
        fresh.refuseArgument(x -> x.block(1, 3, MOST, 0, 0, 0));
        due.is(3, () -> Lines.holding(1).block(1, 3, 7, LEAST, MOST, 8));
    }

    /** A number too great or too small is refused, where there is such a row, and else not looked at. */
    private void blockRow(int k, int n, int row, int wrong) {
        int most = (1 << n) - 1;
        int[] rows = {most, most, most, most};
        due.is(n, () -> Lines.holding(k).block(k, n, rows[0], rows[1], rows[2], rows[3]));
        int[] none = new int[4];
        none[row] = wrong;
        if (row < k) {
            fresh.refuseArgument(x -> x.block(k, n, none[0], none[1], none[2], none[3]));
        } else {
            due.is(n, () -> Lines.holding(k).block(k, n, none[0], none[1], none[2], none[3]));
        }
    }

    private void check() {
        due.about("promise 6: divisor is 2 to 511");
        due.is(2, () -> Lines.holding(1).check(2, 1));
        due.is(9, () -> Lines.holding(1).check(511, 1));
        for (int wrong : new int[] {1, 512, 0, -1, -2, LEAST, MOST}) {
            fresh.refuseArgument(x -> x.check(wrong, 1));
            busy.refuseArgument(x -> x.check(wrong, 32));
        }
        due.about("promise 6: n is 1 to 32");
        due.is(40, () -> Lines.holding(1).check(511, 32));
        due.is(33, () -> Lines.holding(32).check(2, 32));
        due.is(64, () -> Lines.holding(32).check(2, 1));
        for (int wrong : new int[] {0, 33, -1, LEAST, MOST}) {
            fresh.refuseArgument(x -> x.check(2, wrong));
            busy.refuseArgument(x -> x.check(511, wrong));
        }
        due.is(0, () -> new SoundingLine().check(511, 32));
    }

    private void trail() {
        due.about("promise 7: memory is 1 to 4");
        for (int i = 1; i <= 4; i++) {
            int memory = i;
            due.is(2 * (1 + memory), () -> Lines.holding(1).trail(memory, 1, 1, 0));
            due.is(3 * (1 + memory), () -> Lines.holding(1).trail(memory, 1, 1, 1));
        }
        for (int wrong : new int[] {0, 5, -1, 30, 31, 32, 33, LEAST, MOST}) {
            fresh.refuseArgument(x -> x.trail(wrong, 1, 1, 0));
            busy.refuseArgument(x -> x.trail(wrong, 1, 1, 1));
        }
        due.is(0, () -> new SoundingLine().trail(4, 31, 31, 31));
    }

    private void trailMasks() {
        for (int i = 1; i <= 4; i++) {
            int memory = i;
            int most = (1 << memory + 1) - 1;
            due.about("promise 7: first and second are 1 to 2^(m + 1) - 1, third is 0 to that, m " + memory);
            due.is(2 * (1 + memory), () -> Lines.holding(1).trail(memory, most, most, 0));
            due.is(3 * (1 + memory), () -> Lines.holding(1).trail(memory, most, most, most));
            due.is(3 * (1 + memory), () -> Lines.holding(1).trail(memory, 1, 1, most));
            for (int wrong : new int[] {0, most + 1, -1, LEAST, MOST}) {
                fresh.refuseArgument(x -> x.trail(memory, wrong, 1, 0));
                fresh.refuseArgument(x -> x.trail(memory, 1, wrong, 1));
            }
            for (int wrong : new int[] {most + 1, -1, LEAST, MOST}) {
                busy.refuseArgument(x -> x.trail(memory, 1, 1, wrong));
            }
        }
    }

    private void weave() {
        due.about("promise 8: rows and columns are 1 to 10");
        due.is(1, () -> Lines.holding(1).weave(1, 1));
        due.is(10, () -> Lines.holding(1).weave(1, 10));
        due.is(10, () -> Lines.holding(1).weave(10, 1));
        due.is(100, () -> Lines.holding(1).weave(10, 10));
        for (int wrong : new int[] {0, 11, -1, LEAST, MOST}) {
            fresh.refuseArgument(x -> x.weave(wrong, 1));
            fresh.refuseArgument(x -> x.weave(10, wrong));
            busy.refuseArgument(x -> x.weave(wrong, wrong));
        }
        due.is(0, () -> new SoundingLine().weave(10, 10));
    }

    private void fourStages() {
        due.about("promises 4 to 8: at most 4 stages, with no message, too");
        for (int i = 0; i < 5; i++) {
            int kind = i;
            SoundingLine x = new SoundingLine();
            for (int stage = 0; stage < 4; stage++) {
                due.is(0, () -> putSmall(x, kind));
            }
            due.refusesState(() -> putSmall(x, kind));
            due.is(4, () -> x.stages());
            due.is(3, () -> x.drop());
            due.is(0, () -> putSmall(x, kind));
            full.refuseState(y -> putSmall(y, kind));
        }
    }

    private static int putSmall(SoundingLine x, int kind) {
        switch (kind) {
            case 0:
                return x.repeat(2);
            case 1:
                return x.block(1, 1, 1, 0, 0, 0);
            case 2:
                return x.check(2, 1);
            case 3:
                return x.trail(1, 1, 1, 0);
            default:
                return x.weave(1, 1);
        }
    }

    private void sent320() {
        due.about("promises 4 to 8: 320 may be sent");
        due.is(320, () -> tens(16).repeat(2));
        due.is(320, () -> tens(32).block(1, 1, 1, 0, 0, 0));
        due.is(320, () -> tens(32).block(4, 4, 1, 2, 4, 8));
        due.is(320, () -> tens(16).check(3, 1));
        due.is(320, () -> timesSix(26).trail(4, 31, 1, 0));
        due.is(320, () -> tens(32).weave(1, 1));
        due.is(320, () -> tens(32).weave(10, 8));
        // 319 bits there are not: 313 to 320 are filled up to it.
        due.is(320, () -> threefoldOfTens(31).weave(10, 4));
    }

    private void sent321() {
        due.about("promises 4 to 8: 321 may not be sent, and 322, where that is the least");
        filledUp.refuseState(x -> x.weave(1, 3));
        filledUp.refuseState(x -> x.weave(3, 1));
        filledUp.refuseState(x -> x.weave(10, 10));
        filledUp.refuseState(x -> x.block(3, 3, 1, 2, 4, 0));
        filledUp.refuseState(x -> x.repeat(2));
        filledUp.refuseState(x -> x.check(2, 32));
        filledUp.refuseState(x -> x.trail(1, 1, 1, 0));
        Twins to214 = new Twins(due, () -> sending214());
        to214.refuseState(x -> x.check(3, 2));
        to214.refuseState(x -> x.block(2, 3, 1, 2, 0, 0));
        Twins to104 = new Twins(due, () -> sending104());
        to104.refuseState(x -> x.trail(3, 15, 1, 2));
        Twins to161 = new Twins(due, () -> sending161());
        to161.refuseState(x -> x.repeat(2));
    }

    private static SoundingLine tens(int many) {
        SoundingLine x = Lines.holding(many);
        x.repeat(5);
        x.repeat(2);
        return x;
    }

    private static SoundingLine timesSix(int many) {
        SoundingLine x = Lines.holding(many);
        x.repeat(2);
        x.repeat(3);
        return x;
    }

    private static SoundingLine sending104() {
        SoundingLine x = Lines.of(ones(26));
        x.repeat(4);
        return x;
    }

    private static SoundingLine sending214() {
        SoundingLine x = sending104();
        x.trail(3, 15, 1, 0);
        return x;
    }

    private static SoundingLine sending161() {
        SoundingLine x = Lines.of(ones(23));
        x.block(1, 7, 127, 0, 0, 0);
        return x;
    }

    private void drop() {
        due.about("promise 9: the last stage, and how many there are then");
        SoundingLine x = full();
        due.is(3, () -> x.drop());
        due.is(3, () -> x.ofStage(2, 0));
        due.refusesPlace(() -> x.ofStage(3, 0));
        due.is(2, () -> x.drop());
        due.is(2, () -> x.ofStage(1, 0));
        due.is(1, () -> x.drop());
        due.is(0, () -> x.ofStage(0, 0));
        due.is(8, () -> x.sent());
        due.is(0, () -> x.drop());
        due.is(4, () -> x.sent());
        due.same("1101", Lines.sentRow(x));
        due.about("promise 9: there is none");
        due.refusesState(() -> x.drop());
        Twins bare = new Twins(due, () -> Lines.of("101"));
        bare.refuseState(y -> y.drop());
    }

    private void channelKind() {
        due.about("promise 10: kind is 0 to 3");
        for (int wrong : new int[] {-1, 4, LEAST, MOST}) {
            fresh.refuseArgument(x -> x.channel(wrong, 1, 1, 1));
            busy.refuseArgument(x -> x.channel(wrong, 1, 1, 1));
            full.refuseArgument(x -> x.channel(wrong, 1, 1, 1));
        }
        due.about("promise 10: STILL looks at no number");
        due.is(0, () -> new SoundingLine().channel(0, LEAST, MOST, LEAST));
        due.is(0, () -> new SoundingLine().channel(0, MOST, LEAST, MOST));
        SoundingLine x = busy();
        x.channel(0, 1001, -1, -1);
        x.mark(3);
        due.is(0, () -> x.hurt());
    }

    private void channelOfPlaces() {
        for (int i = 1; i <= 3; i += 2) {
            int kind = i;
            due.about("promise 10: p is 0 to 1000, the seed 0 to 1000000, kind " + kind);
            due.is(0, () -> new SoundingLine().channel(kind, 0, 0, LEAST));
            due.is(0, () -> new SoundingLine().channel(kind, 1000, 1000000, MOST));
            for (int wrong : new int[] {-1, 1001, LEAST, MOST}) {
                fresh.refuseArgument(x -> x.channel(kind, wrong, 1, 1));
                busy.refuseArgument(x -> x.channel(kind, wrong, 1, 1));
                full.refuseArgument(x -> x.channel(kind, wrong, 1, 1));
            }
            for (int wrong : new int[] {-1, 1000001, LEAST, MOST}) {
                fresh.refuseArgument(x -> x.channel(kind, 500, wrong, 1));
                busy.refuseArgument(x -> x.channel(kind, 500, wrong, 1));
                filledUp.refuseArgument(x -> x.channel(kind, 500, wrong, 1));
            }
        }
    }

    private void bursts() {
        due.about("promise 10: of bursts the place is 0 to 320");
        due.is(0, () -> new SoundingLine().channel(2, 0, 1, 1));
        due.is(0, () -> new SoundingLine().channel(2, 320, 1, 1));
        for (int wrong : new int[] {-1, 321, 1000, LEAST, MOST}) {
            fresh.refuseArgument(x -> x.channel(2, wrong, 1, 1));
            busy.refuseArgument(x -> x.channel(2, wrong, 1, 1));
        }
        due.about("promise 10: of bursts the length is 1 to 50");
        due.is(0, () -> new SoundingLine().channel(2, 0, 50, 50));
        for (int wrong : new int[] {0, 51, -1, 1000000, LEAST, MOST}) {
            fresh.refuseArgument(x -> x.channel(2, 0, wrong, 320));
            full.refuseArgument(x -> x.channel(2, 0, wrong, 60));
        }
        due.about("promise 10: each burst is the length to 320 behind the one ahead");
        due.is(0, () -> new SoundingLine().channel(2, 0, 50, 320));
        due.is(0, () -> new SoundingLine().channel(2, 0, 7, 7));
        for (int wrong : new int[] {6, 321, 0, -1, LEAST, MOST}) {
            fresh.refuseArgument(x -> x.channel(2, 0, 7, wrong));
            filledUp.refuseArgument(x -> x.channel(2, 0, 7, wrong));
        }
        fresh.refuseArgument(x -> x.channel(2, 0, 50, 49));
    }

    private void channelTellsWhatItWas() {
        due.about("promise 10: what it was");
        SoundingLine x = new SoundingLine();
        int was = 0;
        for (int kind : new int[] {0, 1, 1, 2, 2, 3, 3, 0, 2, 0, 3, 1, 0, 0}) {
            int before = was;
            due.is(before, () -> x.channel(kind, 3, 4, 5));
            due.refusesArgument(() -> x.channel(4, 3, 4, 5));
            was = kind;
        }
    }

    private void mark() {
        due.about("promise 11: place is 0 to 319");
        due.is(1, () -> new SoundingLine().mark(0));
        due.is(1, () -> new SoundingLine().mark(319));
        for (int wrong : new int[] {-1, 320, LEAST, MOST}) {
            fresh.refusePlace(x -> x.mark(wrong));
            busy.refusePlace(x -> x.mark(wrong));
            filledUp.refusePlace(x -> x.mark(wrong));
        }
        due.about("promise 11: how many are marked then, from none to all");
        SoundingLine all = Lines.of("0110");
        for (int i = 0; i < 320; i++) {
            int place = i;
            due.is(place + 1, () -> all.mark(place));
        }
        due.same("1001", Lines.comesRow(all));
        SoundingLine back = Lines.of("01");
        for (int i = 0; i < 160; i++) {
            int place = 2 * i;
            due.is(1, () -> back.mark(place));
            due.is(0, () -> back.mark(place));
        }
        due.same("01", Lines.comesRow(back));
    }

    private void firstNamedException() {
        due.about("of several exceptions the one that is named first");
        filledUp.refuseArgument(x -> x.write(0, 0));
        filledUp.refuseArgument(x -> x.write(0, 17));
        filledUp.refuseArgument(x -> x.write(2, 1));
        filledUp.refuseArgument(x -> x.repeat(6));
        filledUp.refuseArgument(x -> x.block(3, 2, 0, 0, 0, 0));
        filledUp.refuseArgument(x -> x.check(512, 1));
        filledUp.refuseArgument(x -> x.trail(1, 4, 1, 0));
        filledUp.refuseArgument(x -> x.weave(11, 10));
        full.refuseArgument(x -> x.repeat(1));
        full.refuseArgument(x -> x.block(2, 10, 0, 1024, 0, 0));
        full.refuseArgument(x -> x.check(2, 33));
        full.refuseArgument(x -> x.trail(1, 1, 1, 4));
        full.refuseArgument(x -> x.weave(1, 0));
        due.about("of several reasons each is enough");
        Twins both = new Twins(due, () -> fourOf320());
        both.refuseState(x -> x.repeat(5));
        both.refuseState(x -> x.block(1, 10, 0, 0, 0, 0));
        both.refuseState(x -> x.check(511, 1));
        both.refuseState(x -> x.trail(4, 1, 1, 1));
        both.refuseState(x -> x.weave(10, 10));
        both.refuseState(x -> x.write(0, 1));
    }

    private static SoundingLine fourOf320() {
        SoundingLine x = sending320();
        x.weave(1, 2);
        x.weave(2, 1);
        return x;
    }

    private void calls512() {
        due.about("an object is used for 512 calls");
        SoundingLine x = new SoundingLine();
        due.is(1, () -> x.write(1, 1));
        for (int call = 2; call <= 511; call++) {
            int marked = call % 2 == 0 ? 1 : 0;
            due.is(marked, () -> x.mark(0));
        }
        due.is(0, () -> x.errors());
        SoundingLine stages = Lines.of("10");
        for (int round = 0; round < 126; round++) {
            due.is(4, () -> stages.repeat(2));
            due.is(20, () -> stages.block(1, 5, 31, 0, 0, 0));
            due.is(1, () -> stages.drop());
            due.is(0, () -> stages.drop());
        }
        due.same("10", Lines.comesRow(stages));
    }
}
