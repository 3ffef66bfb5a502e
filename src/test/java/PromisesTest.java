/** Each promise of the document by itself: ordinary calls, the edges it names, and wrong ones. */
public final class PromisesTest {
    private final Due due = new Due();

    public static void main(String[] args) {
        PromisesTest test = new PromisesTest();
        test.newObjectWriteAndClear();
        test.stagesArePut();
        test.whatStagesMake();
        test.drop();
        test.channel();
        test.mark();
        test.askingForWhatIsSent();
        test.decoding();
        test.mended();
        test.codes();
        test.whatWouldBe();
        test.refusedCallsChangeNothing();
        test.due.end();
    }

    private void newObjectWriteAndClear() {
        due.about("promise 1");
        SoundingLine x = new SoundingLine();
        due.is(0, () -> x.length());
        due.is(0, () -> x.stages());
        due.is(0, () -> x.sent());
        due.is(0, () -> x.hurt());
        due.is(0, () -> x.errors());
        due.is(0, () -> x.channel(0, 0, 0, 0));
        due.is(1, () -> x.mark(0));

        due.about("promise 2");
        SoundingLine w = new SoundingLine();
        due.is(3, () -> w.write(6, 3));
        due.is(4, () -> w.write(1, 1));
        due.same("1101", Lines.sentRow(w));
        due.is(20, () -> w.write(65535, 16));
        due.is(32, () -> w.write(0, 12));
        due.refusesState(() -> w.write(0, 1));
        due.refusesArgument(() -> w.write(0, 0));
        due.refusesArgument(() -> w.write(0, 17));
        due.refusesArgument(() -> w.write(-1, 2));
        due.refusesArgument(() -> w.write(4, 2));
        due.refusesArgument(() -> w.write(65536, 16));
        due.refusesArgument(() -> w.write(Integer.MAX_VALUE, Integer.MIN_VALUE));
        due.is(32, () -> w.length());
        SoundingLine full = new SoundingLine();
        for (int i = 0; i < 2; i++) {
            full.repeat(5);
        }
        due.is(12, () -> full.write(0, 12));
        due.refusesState(() -> full.write(0, 1));
        due.is(300, () -> full.sent());
        full.drop();
        full.repeat(4);
        due.is(16, () -> full.write(15, 4));
        due.is(320, () -> full.sent());
        due.refusesState(() -> full.write(0, 1));

        due.about("promise 3");
        due.is(16, () -> full.clear());
        due.is(0, () -> full.clear());
        due.is(0, () -> full.sent());
        due.is(0, () -> full.length());
        due.is(2, () -> full.stages());
        due.is(2, () -> full.write(2, 2));
        due.is(1, () -> full.told(0, 0));
        due.is(0, () -> full.told(1, 0));
    }

    private void stagesArePut() {
        due.about("promise 4");
        SoundingLine x = Lines.of(5, 3);
        due.is(6, () -> x.repeat(2));
        due.is(30, () -> x.repeat(5));
        due.refusesArgument(() -> x.repeat(1));
        due.refusesArgument(() -> x.repeat(6));
        due.is(120, () -> x.repeat(4));
        due.refusesState(() -> x.repeat(3));
        due.is(240, () -> x.repeat(2));
        due.refusesState(() -> x.repeat(2));
        due.refusesArgument(() -> x.repeat(0));
        due.is(4, () -> x.stages());

        due.about("promise 5");
        SoundingLine b = Lines.of(0, 8);
        due.is(16, () -> b.block(4, 8, 255, 0, 128, 1));
        due.is(160, () -> b.block(1, 10, 1023, -1, 5000, -7));
        due.refusesState(() -> b.block(1, 3, 7, 0, 0, 0));
        due.is(320, () -> b.block(2, 4, 15, 15, -1, 16));
        due.refusesState(() -> b.block(3, 3, 7, 7, 7, 0));
        due.is(320, () -> b.block(2, 2, 3, 0, 0, 0));
        due.refusesState(() -> b.block(2, 2, 3, 0, 0, 0));
    }

    private void whatStagesMake() {
        due.about("promise 5");
        for (int k = 1; k <= 4; k++) {
            for (int wrong = 0; wrong < 4; wrong++) {
                int[] rows = new int[4];
                rows[wrong] = wrong % 2 == 0 ? 32 : -1;
                int many = k;
                due.is(wrong < k ? "throws.IllegalArgumentException" : "5",
                    () -> Lines.of(0, 1).block(many, 5, rows[0], rows[1], rows[2], rows[3]));
            }
        }
        due.refusesArgument(() -> Lines.of(0, 1).block(0, 5, 0, 0, 0, 0));
        due.refusesArgument(() -> Lines.of(0, 1).block(5, 5, 0, 0, 0, 0));
        due.refusesArgument(() -> Lines.of(0, 1).block(4, 3, 0, 0, 0, 0));
        due.refusesArgument(() -> Lines.of(0, 1).block(1, 11, 0, 0, 0, 0));
        SoundingLine block = Lines.of(27, 5);
        due.is(15, () -> block.block(2, 5, 22, 13, 0, 0));
        // 11, 01 and 10 with a 0 that fills it.
        due.same("110110110110110", Lines.sentRow(block));

        due.about("promise 6");
        SoundingLine check = Lines.of(45, 6);
        due.is(10, () -> check.check(19, 6));
        due.same("1011011110", Lines.sentRow(check));
        SoundingLine filled = Lines.of(3, 2);
        due.is(6, () -> filled.check(11, 3));
        due.same("110001", Lines.sentRow(filled));
        due.is(10, () -> Lines.of(0, 1).check(511, 2));
        due.is(2, () -> Lines.of(0, 1).check(2, 1));
        due.is(33, () -> Lines.of(0, 1).check(3, 32));
        due.is(288, () -> {
            SoundingLine most = Lines.of(0, 16);
            most.write(65535, 16);
            return most.check(256, 1);
        });
        due.refusesArgument(() -> check.check(1, 6));
        due.refusesArgument(() -> check.check(512, 6));
        due.refusesArgument(() -> check.check(-3, 6));
        due.refusesArgument(() -> check.check(3, 0));
        due.refusesArgument(() -> check.check(3, 33));

        due.about("promise 7");
        SoundingLine trail = Lines.of(11, 4);
        due.is(12, () -> trail.trail(2, 7, 5, 0));
        due.same("111000010111", Lines.sentRow(trail));
        SoundingLine three = Lines.of(2, 2);
        due.is(9, () -> three.trail(1, 3, 1, 2));
        due.same("101110000", Lines.sentRow(three));
        SoundingLine empty = new SoundingLine();
        due.is(0, () -> empty.trail(4, 31, 21, 0));
        due.is(10, () -> {
            empty.write(0, 1);
            return empty.sent();
        });
        due.refusesArgument(() -> trail.trail(0, 1, 1, 0));
        due.refusesArgument(() -> trail.trail(5, 1, 1, 0));
        due.refusesArgument(() -> trail.trail(4, 0, 1, 0));
        due.refusesArgument(() -> trail.trail(4, 32, 1, 0));
        due.refusesArgument(() -> trail.trail(4, 1, 0, 0));
        due.refusesArgument(() -> trail.trail(4, 1, 32, 0));
        due.refusesArgument(() -> trail.trail(4, 1, 1, 32));
        due.refusesArgument(() -> trail.trail(4, 1, 1, -1));
        due.is(48, () -> trail.trail(4, 31, 31, 31));
        due.is(104, () -> trail.trail(4, 1, 1, 0));
        due.refusesState(() -> trail.trail(4, 1, 1, 1));
        due.is(210, () -> trail.trail(1, 1, 1, 0));
        due.refusesState(() -> trail.trail(1, 1, 1, 0));

        due.about("promise 8");
        SoundingLine weave = Lines.of(0x2A6, 10);
        due.is(12, () -> weave.weave(3, 4));
        // 1010 1001 1000, read down its columns.
        due.same("111000100010", Lines.sentRow(weave));
        due.is(100, () -> weave.weave(10, 10));
        due.is(100, () -> weave.weave(1, 1));
        due.refusesArgument(() -> weave.weave(0, 1));
        due.refusesArgument(() -> weave.weave(1, 0));
        due.refusesArgument(() -> weave.weave(11, 1));
        due.refusesArgument(() -> weave.weave(1, 11));
        due.is(100, () -> weave.weave(5, 5));
        due.refusesState(() -> weave.weave(1, 1));
    }

    private void drop() {
        due.about("promise 9");
        SoundingLine x = Lines.of(2, 2);
        due.refusesState(() -> x.drop());
        x.repeat(2);
        x.weave(3, 3);
        due.is(1, () -> x.drop());
        due.same("1100", Lines.sentRow(x));
        due.is(0, () -> x.drop());
        due.same("10", Lines.sentRow(x));
        due.refusesState(() -> x.drop());
        for (int i = 0; i < 4; i++) {
            x.weave(1, 1);
        }
        due.is(3, () -> x.drop());
        due.is(4, () -> x.repeat(2));
        due.same("1100", Lines.sentRow(x));
        x.mark(0);
        due.is(1, () -> x.errors());
        due.same("0100", Lines.comesRow(x));
        due.same("20", Lines.decodedRow(x));
        due.is(3, () -> x.drop());
        due.same("00", Lines.comesRow(x));
        due.same("00", Lines.decodedRow(x));
    }

    private void channel() {
        due.about("promise 10");
        SoundingLine x = Lines.of(0, 10);
        due.is(0, () -> x.channel(1, 500, 1, -9));
        due.same("0010101111", Lines.comesRow(x));
        due.is(1, () -> x.channel(1, 838, 1, 0));
        due.is(0, () -> x.bit(0, 1));
        due.is(1, () -> x.channel(1, 839, 1, 0));
        due.is(1, () -> x.bit(0, 1));
        due.is(1, () -> x.channel(1, 0, 1, 0));
        due.same("0000000000", Lines.comesRow(x));
        due.is(1, () -> x.channel(3, 0, 0, 0));
        due.same("0000000000", Lines.comesRow(x));
        due.is(3, () -> x.channel(3, 500, 1, Integer.MIN_VALUE));
        due.same("0020202222", Lines.comesRow(x));
        due.is(3, () -> x.channel(3, 1, 0, 0));
        // x / 65536 is 0 at first, with the seed 0.
        due.is(2, () -> x.bit(0, 1));
        due.is(3, () -> x.channel(2, 1, 2, 4));
        due.same("0110011001", Lines.comesRow(x));
        due.is(2, () -> x.channel(2, 3, 50, 50));
        due.same("0001111111", Lines.comesRow(x));
        due.is(2, () -> x.channel(2, 0, 1, 320));
        due.same("1000000000", Lines.comesRow(x));
        due.is(2, () -> x.channel(2, 320, 1, 1));
        due.is(0, () -> x.hurt());
        due.is(2, () -> x.channel(1, 1000, 1000000, 0));
        due.same("1111111111", Lines.comesRow(x));
        due.is(1, () -> x.channel(3, 1000, 0, 0));
        due.same("2222222222", Lines.comesRow(x));
        due.is(3, () -> x.channel(0, -1, 5000000, -1));
        due.same("0000000000", Lines.comesRow(x));
        due.refusesArgument(() -> x.channel(-1, 0, 0, 0));
        due.refusesArgument(() -> x.channel(4, 0, 0, 0));
        for (int i = 1; i <= 3; i += 2) {
            int kind = i;
            due.refusesArgument(() -> x.channel(kind, -1, 0, 0));
            due.refusesArgument(() -> x.channel(kind, 1001, 0, 0));
            due.refusesArgument(() -> x.channel(kind, 0, -1, 0));
            due.refusesArgument(() -> x.channel(kind, 0, 1000001, 0));
        }
        due.refusesArgument(() -> x.channel(2, -1, 1, 1));
        due.refusesArgument(() -> x.channel(2, 321, 1, 1));
        due.refusesArgument(() -> x.channel(2, 0, 0, 1));
        due.refusesArgument(() -> x.channel(2, 0, 51, 51));
        due.refusesArgument(() -> x.channel(2, 0, 3, 2));
        due.refusesArgument(() -> x.channel(2, 0, 3, 321));
        due.is(0, () -> x.channel(0, 0, 0, 0));
    }

    private void mark() {
        due.about("promise 11");
        SoundingLine x = Lines.of(5, 4);
        due.is(1, () -> x.mark(0));
        due.is(2, () -> x.mark(319));
        due.is(3, () -> x.mark(5));
        due.same("1101", Lines.comesRow(x));
        due.is(8, () -> x.repeat(2));
        due.same("10110111", Lines.comesRow(x));
        due.is(2, () -> x.mark(0));
        due.is(1, () -> x.mark(319));
        due.same("00110111", Lines.comesRow(x));
        due.refusesPlace(() -> x.mark(320));
        due.refusesPlace(() -> x.mark(-1));
        due.refusesPlace(() -> x.mark(Integer.MIN_VALUE));
        x.channel(3, 1000, 0, 0);
        due.same("22222222", Lines.comesRow(x));
        x.channel(1, 1000, 0, 0);
        due.same("11001000", Lines.comesRow(x));
        x.clear();
        due.is(0, () -> x.hurt());
        due.is(0, () -> x.mark(5));
    }

    private void askingForWhatIsSent() {
        SoundingLine x = Lines.of(6, 3);
        due.about("promises 12, 13 and 15");
        due.is(3, () -> x.length());
        due.is(0, () -> x.stages());
        due.is(3, () -> x.sent());
        x.repeat(3);
        x.weave(2, 5);
        due.is(3, () -> x.length());
        due.is(2, () -> x.stages());
        due.is(10, () -> x.sent());

        due.about("promise 14");
        due.is(0, () -> x.ofStage(0, 0));
        due.is(3, () -> x.ofStage(0, 1));
        due.is(9, () -> x.ofStage(0, 2));
        due.is(4, () -> x.ofStage(1, 0));
        due.is(9, () -> x.ofStage(1, 1));
        due.is(10, () -> x.ofStage(1, 2));
        due.is(0, () -> x.ofStage(1, 3));
        due.is(0, () -> x.ofStage(1, 4));
        due.refusesPlace(() -> x.ofStage(2, 0));
        due.refusesPlace(() -> x.ofStage(-1, 9));
        due.refusesArgument(() -> x.ofStage(0, -1));
        due.refusesArgument(() -> x.ofStage(0, 5));
        SoundingLine kinds = Lines.of(0, 1);
        kinds.trail(1, 1, 1, 0);
        kinds.block(1, 1, 1, 0, 0, 0);
        kinds.check(2, 1);
        due.is(3, () -> kinds.ofStage(0, 0));
        due.is(1, () -> kinds.ofStage(1, 0));
        due.is(2, () -> kinds.ofStage(2, 0));

        due.about("promise 16");
        x.drop();
        x.mark(8);
        due.same("111111000", Lines.sentRow(x));
        due.same("111111001", Lines.comesRow(x));
        due.is(0, () -> x.bit(8, 0));
        due.is(1, () -> x.bit(8, 1));
        due.refusesPlace(() -> x.bit(9, 0));
        due.refusesPlace(() -> x.bit(-1, 2));
        due.refusesArgument(() -> x.bit(0, 2));
        due.refusesArgument(() -> x.bit(0, -1));

        due.about("promise 17");
        x.mark(7);
        due.is(0, () -> x.told(2, 0));
        due.is(1, () -> x.told(2, 1));
        due.is(1, () -> x.told(0, 0));
        due.refusesPlace(() -> x.told(3, 0));
        due.refusesPlace(() -> x.told(-1, 2));
        due.refusesArgument(() -> x.told(2, 2));
        due.refusesArgument(() -> x.told(2, -1));

        due.about("promises 18 and 19");
        due.is(2, () -> x.hurt());
        due.is(1, () -> x.errors());
        x.channel(3, 1000, 0, 0);
        due.is(9, () -> x.hurt());
        due.is(3, () -> x.errors());
        due.is(2, () -> x.told(2, 1));
        SoundingLine bare = Lines.of(1, 2);
        bare.mark(1);
        due.is(1, () -> bare.errors());
        due.is(0, () -> bare.told(1, 1));
    }

    private void decoding() {
        due.about("decoding REPEAT");
        SoundingLine twice = Lines.of(2, 2);
        twice.repeat(2);
        twice.mark(0);
        due.same("20", Lines.decodedRow(twice));
        due.is(1, () -> twice.errors());
        SoundingLine five = Lines.of(0, 2);
        five.repeat(5);
        five.channel(3, 500, 1, 0);
        // 00202 02222: what is left decides.
        due.same("00", Lines.decodedRow(five));
        five.mark(0);
        due.same("00", Lines.decodedRow(five));
        five.mark(1);
        due.same("10", Lines.decodedRow(five));
        five.mark(5);
        due.same("11", Lines.decodedRow(five));

        due.about("decoding BLOCK");
        SoundingLine tie = Lines.of(1, 1);
        tie.block(1, 2, 3, 0, 0, 0);
        tie.mark(0);
        due.same("0", Lines.decodedRow(tie));
        tie.mark(0);
        tie.channel(3, 1000, 0, 0);
        due.same("0", Lines.decodedRow(tie));
        SoundingLine two = Lines.of(3, 2);
        two.block(2, 4, 14, 7, 0, 0);
        due.same("1001", Lines.sentRow(two));
        two.mark(3);
        // 1000 is 1 from 0000, and from 1001: the smaller number.
        due.same("00", Lines.decodedRow(two));
        two.mark(3);
        two.mark(1);
        due.same("11", Lines.decodedRow(two));
        two.mark(2);
        // 1111 is 1 from 0111, and from 1110.
        due.same("01", Lines.decodedRow(two));

        due.about("decoding CHECK");
        SoundingLine check = Lines.of(5, 3);
        check.check(11, 2);
        due.is(10, () -> check.sent());
        check.mark(5);
        due.same("100", Lines.decodedRow(check));
        check.mark(5);
        check.channel(3, 1000, 0, 0);
        due.same("222", Lines.decodedRow(check));
        due.is(2, () -> check.ofStage(0, 4));

        due.about("decoding TRAIL");
        SoundingLine trail = Lines.of(1, 1);
        trail.trail(1, 2, 1, 0);
        due.same("1001", Lines.sentRow(trail));
        trail.mark(0);
        due.same("0", Lines.decodedRow(trail));
        trail.mark(0);
        trail.mark(3);
        due.same("0", Lines.decodedRow(trail));
        trail.mark(3);
        trail.mark(1);
        due.same("1", Lines.decodedRow(trail));
        SoundingLine good = Lines.of(11, 4);
        good.trail(2, 7, 5, 0);
        good.mark(3);
        good.mark(8);
        due.same("1011", Lines.decodedRow(good));
        good.channel(3, 1000, 0, 0);
        due.same("0000", Lines.decodedRow(good));

        due.about("decoding WEAVE");
        SoundingLine weave = Lines.of(0x2A6, 10);
        weave.weave(3, 4);
        weave.mark(1);
        due.same("1010000110", Lines.decodedRow(weave));

        due.about("decoding stage by stage");
        SoundingLine both = Lines.of(5, 3);
        both.check(11, 3);
        both.repeat(2);
        both.mark(2);
        due.same("121", Lines.decodedRow(both));
        due.is(1, () -> both.ofStage(0, 4));
        due.is(1, () -> both.errors());
    }

    private void mended() {
        due.about("promise 14, MENDED");
        SoundingLine x = Lines.of(2, 2);
        x.repeat(3);
        x.mark(0);
        due.is(1, () -> x.ofStage(0, 3));
        x.mark(1);
        due.is(1, () -> x.ofStage(0, 3));
        x.mark(2);
        due.is(0, () -> x.ofStage(0, 3));
        SoundingLine fill = Lines.of(1, 1);
        fill.weave(2, 2);
        fill.mark(3);
        due.is(0, () -> fill.errors());
        due.is(1, () -> fill.hurt());
        due.is(1, () -> fill.ofStage(0, 3));
        SoundingLine lost = Lines.of(0, 2);
        lost.check(3, 2);
        lost.channel(3, 1000, 0, 0);
        due.is(3, () -> lost.ofStage(0, 3));
        due.is(1, () -> lost.ofStage(0, 4));

        due.about("promise 14, DAMAGED");
        SoundingLine check = Lines.of(1, 1);
        check.check(3, 2);
        due.same("101", Lines.sentRow(check));
        due.is(0, () -> check.ofStage(0, 4));
        check.mark(1);
        due.is(0, () -> check.errors());
        due.is(1, () -> check.ofStage(0, 4));
        due.is(1, () -> check.ofStage(0, 3));
        check.mark(0);
        due.is(0, () -> check.ofStage(0, 4));
        due.is(1, () -> check.errors());
        check.mark(1);
        check.mark(0);
        check.mark(2);
        due.is(1, () -> check.ofStage(0, 4));
        SoundingLine blocks = Lines.of(0, 4);
        blocks.check(3, 1);
        blocks.channel(3, 500, 1, 0);
        // 00 20 20 22: a lost bit alone is damage, at the first place or in the rest.
        due.is(3, () -> blocks.ofStage(0, 4));
        blocks.channel(3, 500, 3, 0);
        due.same("02220020", Lines.comesRow(blocks));
        due.is(3, () -> blocks.ofStage(0, 4));
    }

    private void codes() {
        due.about("promise 20");
        SoundingLine x = new SoundingLine();
        x.repeat(4);
        x.block(2, 5, 22, 13, 0, 0);
        x.check(11, 4);
        x.weave(9, 9);
        due.is(4, () -> x.distance(0));
        due.is(3, () -> x.distance(1));
        due.is(1, () -> x.distance(2));
        due.is(1, () -> x.distance(3));
        due.refusesPlace(() -> x.distance(4));
        due.refusesPlace(() -> x.distance(-1));
        SoundingLine same = new SoundingLine();
        same.block(4, 6, 63, 1, 2, 63);
        due.is(0, () -> same.distance(0));
        same.block(1, 10, 1023, 0, 0, 0);
        due.is(10, () -> same.distance(1));
        SoundingLine trails = new SoundingLine();
        trails.trail(2, 7, 5, 0);
        trails.trail(1, 3, 1, 2);
        trails.trail(4, 31, 21, 0);
        trails.trail(1, 1, 1, 0);
        due.is(5, () -> trails.distance(0));
        due.is(4, () -> trails.distance(1));
        due.is(6, () -> trails.distance(2));
        due.is(2, () -> trails.distance(3));
        SoundingLine far = new SoundingLine();
        // The way with the fewest 1s puts in 16 bits.
        far.trail(4, 19, 19, 0);
        due.is(4, () -> far.distance(0));
        due.refusesPlace(() -> new SoundingLine().distance(0));

        due.about("promise 21");
        due.is(1, () -> x.words(1, 0));
        due.is(2, () -> x.words(1, 3));
        due.is(1, () -> x.words(1, 4));
        due.is(0, () -> x.words(1, 10));
        due.is(2, () -> same.words(0, 0));
        due.is(1, () -> same.words(1, 10));
        due.refusesPlace(() -> x.words(4, 99));
        due.refusesPlace(() -> x.words(-1, 0));
        due.refusesArgument(() -> x.words(0, 0));
        due.refusesArgument(() -> x.words(3, 0));
        due.refusesArgument(() -> x.words(1, -1));
        due.refusesArgument(() -> x.words(1, 11));

        due.about("promise 22");
        due.is(0.0, () -> x.rate());
        due.is(1.0, () -> Lines.of(0, 3).rate());
        SoundingLine third = Lines.of(0, 2);
        third.repeat(3);
        due.is(1.0 / 3, () -> third.rate());
    }

    private void whatWouldBe() {
        due.about("promise 23");
        SoundingLine x = Lines.of(2, 2);
        x.repeat(3);
        due.is(0, () -> x.errorsWith(0));
        x.mark(1);
        due.is(1, () -> x.errorsWith(0));
        due.is(0, () -> x.errorsWith(1));
        due.is(0, () -> x.errorsWith(5));
        due.refusesPlace(() -> x.errorsWith(6));
        due.refusesPlace(() -> x.errorsWith(-1));
        due.is(0, () -> x.errors());

        due.about("promise 24");
        due.is(2, () -> x.weak());
        x.mark(0);
        due.is(1, () -> x.errors());
        due.is(0, () -> x.weak());
        x.channel(3, 1000, 0, 0);
        due.is(0, () -> x.weak());
        due.is(2, () -> x.errorsWith(0));
        x.channel(0, 0, 0, 0);
        due.is(0, () -> new SoundingLine().weak());
        due.is(5, () -> Lines.of(0, 5).weak());

        due.about("promise 25");
        due.is(2, () -> x.breaks(0));
        due.is(2, () -> x.breaks(1));
        due.is(3, () -> x.breaks(2));
        due.is(2, () -> x.breaks(4));
        due.is(0, () -> x.breaks(5));
        due.is(0, () -> x.breaks(6));
        due.is(0, () -> x.breaks(319));
        due.refusesArgument(() -> x.breaks(320));
        due.refusesArgument(() -> x.breaks(-1));
        x.channel(1, 1000, 0, 0);
        due.is(2, () -> x.breaks(0));
        due.is(1, () -> Lines.of(0, 3).breaks(2));
        due.is(0, () -> new SoundingLine().breaks(0));

        due.about("promise 26");
        SoundingLine noise = Lines.of(0, 10);
        due.is(6.0, () -> noise.meanErrors(500, 1));
        due.is(0.0, () -> noise.meanErrors(0, 20));
        due.is(10.0, () -> noise.meanErrors(1000, 20));
        due.is(4.5, () -> noise.meanErrors(500, 2));
        noise.mark(0);
        due.is(5.5, () -> noise.meanErrors(500, 2));
        due.is(7.0, () -> noise.meanErrors(500, 1));
        due.is(1.0, () -> noise.meanErrors(0, 3));
        noise.channel(3, 1000, 0, 0);
        due.is(7.0, () -> noise.meanErrors(500, 1));
        due.is(10, () -> noise.errors());
        due.refusesArgument(() -> noise.meanErrors(-1, 1));
        due.refusesArgument(() -> noise.meanErrors(1001, 1));
        due.refusesArgument(() -> noise.meanErrors(0, 0));
        due.refusesArgument(() -> noise.meanErrors(0, 21));

        due.about("promise 27");
        due.is(digestOf(0, 0, 0, 0, 0, 0, 0, 0), () -> new SoundingLine().digest());
        due.is(digestOf(1, 0, 1, 0, 0, 1, 1, 1, 1, 1, 0, 1), () -> Lines.of(1, 1).digest());
        SoundingLine block = Lines.of(1, 1);
        block.block(1, 3, 6, 0, 0, 0);
        block.mark(2);
        due.is(digestOf(1, 1, 3, 1, 0,
            1, 1, 3, 1, 0, 2, 1, 0, 1, 0, 0, 0, 0, 0, 0, 0, 0,
            1, 1, 1, 1, 1, 1, 0, 1, 1, 0, 2), () -> block.digest());
        SoundingLine all = Lines.of(181, 8);
        due.is(digestOfAsks(all), () -> all.digest());
        all.mark(6);
        due.is(digestOfAsks(all), () -> all.digest());
        all.repeat(3);
        all.mark(8);
        due.is(digestOfAsks(all), () -> all.digest());
        SoundingLine trail = Lines.of(181, 8);
        trail.repeat(2);
        trail.check(11, 5);
        trail.weave(3, 4);
        trail.trail(2, 7, 5, 3);
        trail.channel(3, 100, 77, 0);
        due.is(digestOfAsks(trail), () -> trail.digest());
    }

    private static long digestOfAsks(SoundingLine x) {
        long d = digestOf(x.length(), x.stages(), x.sent(), x.hurt(), x.errors());
        for (int stage = 0; stage < x.stages(); stage++) {
            for (int what = 0; what < 5; what++) {
                d = d * 31 + x.ofStage(stage, what);
            }
            d = d * 31 + x.distance(stage);
            for (int ones = 0; ones < 11 && x.ofStage(stage, 0) == 1; ones++) {
                d = d * 31 + x.words(stage, ones);
            }
        }
        int told = 2 * x.length();
        for (int i = 0; i < told; i++) {
            d = d * 31 + x.told(i / 2, i % 2);
        }
        int bits = 2 * x.sent();
        for (int i = 0; i < bits; i++) {
            d = d * 31 + x.bit(i / 2, i % 2);
        }
        d = d * 31 + x.breaks(0);
        d = d * 31 + x.breaks(5);
        return d * 31 + x.weak();
    }

    private static long digestOf(int... numbers) {
        long d = 58076;
        for (int x : numbers) {
            d = d * 31 + x;
        }
        return d;
    }

    private void refusedCallsChangeNothing() {
        due.about("a refused call");
        SoundingLine x = Lines.of(43690, 16);
        x.write(1, 16);
        x.repeat(3);
        x.trail(1, 3, 1, 2);
        x.channel(1, 100, 5, 0);
        x.mark(7);
        long was = x.digest();
        due.refusesArgument(() -> x.write(2, 1));
        due.refusesState(() -> x.write(1, 1));
        due.refusesArgument(() -> x.repeat(6));
        due.refusesState(() -> x.repeat(2));
        due.refusesArgument(() -> x.block(1, 1, 2, 0, 0, 0));
        due.refusesState(() -> x.block(1, 2, 2, 0, 0, 0));
        due.refusesArgument(() -> x.check(1, 1));
        due.refusesState(() -> x.check(511, 2));
        due.refusesArgument(() -> x.trail(1, 4, 1, 0));
        due.refusesState(() -> x.trail(1, 3, 1, 0));
        due.refusesArgument(() -> x.weave(11, 1));
        due.refusesState(() -> x.weave(10, 9));
        due.refusesArgument(() -> x.channel(2, 0, 2, 1));
        due.refusesPlace(() -> x.mark(320));
        due.refusesArgument(() -> x.meanErrors(1, 0));
        due.refusesArgument(() -> x.breaks(320));
        due.is(was, () -> x.digest());
        x.meanErrors(300, 20);
        x.weak();
        x.breaks(3);
        x.errorsWith(3);
        due.is(was, () -> x.digest());
        due.is(1, () -> x.channel(0, 0, 0, 0));
    }
}
