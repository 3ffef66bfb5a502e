import java.math.BigInteger;

/** The edges of each promise that asks, or tells what would be; none of them changes anything. */
public final class AsksTest {
    private static final int LEAST = Integer.MIN_VALUE;
    private static final int MOST = Integer.MAX_VALUE;

    private final Due due = new Due();
    private final Twins four = new Twins(due, () -> four());
    private final Twins sending320 = new Twins(due, () -> sending320());

    public static void main(String[] args) {
        AsksTest test = new AsksTest();
        test.lengthStagesSent();
        test.ofStage();
        test.ofStageWithoutMessage();
        test.bit();
        test.told();
        test.hurtAndErrors();
        test.distanceBounds();
        test.distanceOfRepeat();
        test.distanceOfBlock();
        test.distanceOfTrail();
        test.distanceOfOthers();
        test.wordsBounds();
        test.words();
        test.rate();
        test.errorsWith();
        test.weak();
        test.breaksBounds();
        test.breaks();
        test.breaksNever();
        test.meanErrorsBounds();
        test.meanErrors();
        test.digestParts();
        test.digestWraps();
        test.asksChangeNothing();
        test.due.end();
    }

    /** Four stages, one of them a block: 4 bits, 6, 24, 27 and 54. */
    private static SoundingLine four() {
        SoundingLine x = Lines.of("1101");
        x.block(2, 3, 5, 3, -1, -1);
        x.trail(2, 7, 5, 3);
        x.weave(3, 3);
        x.repeat(2);
        x.channel(1, 100, 3, 0);
        x.mark(53);
        return x;
    }

    private static SoundingLine sending320() {
        SoundingLine x = Lines.of("01".repeat(16));
        x.check(3, 1);
        x.repeat(5);
        x.mark(0);
        x.mark(319);
        return x;
    }

    private void lengthStagesSent() {
        due.about("promises 12, 13 and 15: none, and the most there can be");
        SoundingLine none = new SoundingLine();
        due.is(0, () -> none.length());
        due.is(0, () -> none.stages());
        due.is(0, () -> none.sent());
        SoundingLine most = sending320();
        most.weave(1, 1);
        most.block(1, 1, 1, 0, 0, 0);
        due.is(32, () -> most.length());
        due.is(4, () -> most.stages());
        due.is(320, () -> most.sent());
        due.is(54, () -> four().sent());
        due.about("promise 15: what the stages fill is sent, too");
        SoundingLine filled = Lines.of("1");
        filled.weave(10, 10);
        due.is(100, () -> filled.sent());
        due.is(1, () -> filled.length());
    }

    private void ofStage() {
        due.about("promise 14: there is no such stage");
        for (int wrong : new int[] {-1, 4, 5, LEAST, MOST}) {
            four.refusePlace(x -> x.ofStage(wrong, 0));
            four.refusePlace(x -> x.ofStage(wrong, 5));
            sending320.refusePlace(x -> x.ofStage(wrong, -1));
        }
        sending320.refusePlace(x -> x.ofStage(2, 4));
        due.about("promise 14: what is 0 to 4");
        for (int wrong : new int[] {-1, 5, LEAST, MOST}) {
            four.refuseArgument(x -> x.ofStage(0, wrong));
            four.refuseArgument(x -> x.ofStage(3, wrong));
        }
        due.about("promise 14: what a stage is, codes and makes");
        ofStageIs(four(), 0, "1 4 6");
        ofStageIs(four(), 1, "3 6 24");
        ofStageIs(four(), 2, "4 24 27");
        ofStageIs(four(), 3, "0 27 54");
        ofStageIs(sending320(), 0, "2 32 64");
        ofStageIs(sending320(), 1, "0 64 320");
        due.about("promise 14: no stage but a check is damaged");
        for (int stage = 0; stage < 4; stage++) {
            int number = stage;
            SoundingLine x = four();
            x.channel(3, 1000, 0, 0);
            due.is(0, () -> x.ofStage(number, 4));
        }
    }

    private void ofStageIs(SoundingLine x, int stage, String want) {
        due.is(want, () -> x.ofStage(stage, 0) + " " + x.ofStage(stage, 1) + " " + x.ofStage(stage, 2));
    }

    private void ofStageWithoutMessage() {
        due.about("promise 14: stages without a message");
        SoundingLine x = four();
        x.drop();
        x.check(2, 1);
        x.clear();
        for (int i = 0; i < 4; i++) {
            int stage = i;
            for (int what = 1; what <= 4; what++) {
                int of = what;
                due.is(0, () -> x.ofStage(stage, of));
            }
        }
        due.is(1, () -> x.ofStage(0, 0));
        due.is(3, () -> x.ofStage(1, 0));
        due.is(4, () -> x.ofStage(2, 0));
        due.is(2, () -> x.ofStage(3, 0));
    }

    private void bit() {
        due.about("promise 16: a place in what is sent");
        for (int wrong : new int[] {-1, 54, 55, 319, 320, LEAST, MOST}) {
            four.refusePlace(x -> x.bit(wrong, 0));
            four.refusePlace(x -> x.bit(wrong, 1));
            four.refusePlace(x -> x.bit(wrong, 2));
        }
        sending320.refusePlace(x -> x.bit(320, 0));
        sending320.refusePlace(x -> x.bit(320, 1));
        due.about("promise 16: what is 0 or 1");
        for (int wrong : new int[] {-1, 2, LEAST, MOST}) {
            four.refuseArgument(x -> x.bit(0, wrong));
            four.refuseArgument(x -> x.bit(53, wrong));
        }
        due.about("promise 16: at the first and the last place");
        sending320.answer(0, x -> x.bit(0, 0));
        sending320.answer(1, x -> x.bit(0, 1));
        sending320.answer(1, x -> x.bit(319, 0));
        sending320.answer(0, x -> x.bit(319, 1));
        sending320.answer(0, x -> x.bit(1, 1));
        sending320.answer(1, x -> x.bit(318, 1));
        due.about("promise 16: what comes can be lost");
        SoundingLine lost = Lines.of("1");
        lost.channel(3, 1000, 0, 0);
        due.is(1, () -> lost.bit(0, 0));
        due.is(2, () -> lost.bit(0, 1));
        due.refusesPlace(() -> lost.bit(1, 0));
    }

    private void told() {
        due.about("promise 17: a place in the message");
        for (int wrong : new int[] {-1, 4, 31, 32, 53, LEAST, MOST}) {
            four.refusePlace(x -> x.told(wrong, 0));
            four.refusePlace(x -> x.told(wrong, 1));
            four.refusePlace(x -> x.told(wrong, 2));
        }
        sending320.refusePlace(x -> x.told(32, 0));
        sending320.refusePlace(x -> x.told(32, 1));
        due.about("promise 17: what is 0 or 1");
        for (int wrong : new int[] {-1, 2, LEAST, MOST}) {
            four.refuseArgument(x -> x.told(0, wrong));
            four.refuseArgument(x -> x.told(3, wrong));
        }
        due.about("promise 17: at the first and the last place");
        SoundingLine x = Lines.of("1" + "0".repeat(30) + "1");
        x.mark(0);
        due.is(1, () -> x.told(0, 0));
        due.is(0, () -> x.told(0, 1));
        due.is(1, () -> x.told(31, 0));
        due.is(1, () -> x.told(31, 1));
        x.channel(3, 1000, 0, 0);
        due.is(1, () -> x.told(31, 0));
        due.is(2, () -> x.told(31, 1));
    }

    private void hurtAndErrors() {
        due.about("promises 18 and 19: none, and all");
        SoundingLine x = Lines.of("0110");
        due.is("0 0", () -> x.hurt() + " " + x.errors());
        x.channel(1, 1000, 5, 0);
        due.is("4 4", () -> x.hurt() + " " + x.errors());
        x.channel(3, 1000, 5, 0);
        due.is("4 4", () -> x.hurt() + " " + x.errors());
        x.channel(1, 0, 5, 0);
        due.is("0 0", () -> x.hurt() + " " + x.errors());
        x.mark(4);
        due.is("0 0", () -> x.hurt() + " " + x.errors());
        SoundingLine most = sending320();
        most.mark(0);
        most.mark(319);
        most.channel(1, 1000, 0, 0);
        due.is("320 32", () -> most.hurt() + " " + most.errors());
        most.channel(3, 1000, 0, 0);
        due.is("320 32", () -> most.hurt() + " " + most.errors());
        due.about("promises 18 and 19: lost bits of either value");
        SoundingLine two = Lines.of("01");
        two.channel(3, 1000, 0, 0);
        due.is("2 2", () -> two.hurt() + " " + two.errors());
        due.about("promise 18: what fills counts as sent, promise 19: and not as message");
        SoundingLine filled = Lines.of("1");
        filled.weave(2, 2);
        filled.channel(1, 1000, 0, 0);
        due.is("4 1", () -> filled.hurt() + " " + filled.errors());
    }

    private void distanceBounds() {
        due.about("promise 20: there is no such stage");
        for (int wrong : new int[] {-1, 4, 5, LEAST, MOST}) {
            four.refusePlace(x -> x.distance(wrong));
        }
        sending320.refusePlace(x -> x.distance(2));
        SoundingLine x = four();
        due.is("2 7 1 2", () -> x.distance(0) + " " + x.distance(1) + " " + x.distance(2) + " " + x.distance(3));
        x.drop();
        due.refusesPlace(() -> x.distance(3));
    }

    private void distanceOfRepeat() {
        due.about("promise 20: of REPEAT n");
        for (int i = 2; i <= 5; i++) {
            int n = i;
            SoundingLine x = new SoundingLine();
            x.repeat(n);
            due.is(n, () -> x.distance(0));
        }
    }

    private void distanceOfBlock() {
        due.about("promise 20: of BLOCK it can be 0");
        due.is(0, () -> block(1, 10, 0, 0, 0, 0).distance(0));
        due.is(0, () -> block(2, 2, 3, 3, 0, 0).distance(0));
        due.is(0, () -> block(3, 3, 6, 5, 3, 0).distance(0));
        due.is(0, () -> block(4, 10, 1023, 1000, 1, 22).distance(0));
        due.about("promise 20: of BLOCK only blocks of the rows that there are");
        due.is(1, () -> block(1, 1, 1, 0, 0, 0).distance(0));
        due.is(10, () -> block(1, 10, 1023, 0, 0, 0).distance(0));
        due.is(2, () -> block(2, 4, 12, 3, 0, 1).distance(0));
        due.is(3, () -> block(4, 7, 70, 37, 19, 15).distance(0));
        due.about("promise 20: of BLOCK the first row, the last one, or the sum of all, can be the least");
        due.is(1, () -> block(4, 10, 0x001, 0x30F, 0x333, 0x3F0).distance(0));
        due.is(1, () -> block(4, 10, 0x3F0, 0x30F, 0x333, 0x001).distance(0));
        due.is(2, () -> block(4, 10, 0x3E0, 0x01F, 0x2AA, 0x156).distance(0));
    }

    private static SoundingLine block(int k, int n, int first, int second, int third, int fourth) {
        SoundingLine x = new SoundingLine();
        x.block(k, n, first, second, third, fourth);
        return x;
    }

    private void distanceOfTrail() {
        due.about("promise 20: of TRAIL, 2 masks and 3");
        due.is(5, () -> trail(2, 7, 5, 0).distance(0));
        due.is(8, () -> trail(2, 7, 5, 7).distance(0));
        due.is(3, () -> trail(1, 2, 3, 0).distance(0));
        due.is(2, () -> trail(1, 1, 2, 0).distance(0));
        due.is(3, () -> trail(4, 16, 16, 1).distance(0));
        due.about("promise 20: of TRAIL, the latest bit counts as it is put in, the oldest as it goes");
        due.is(2, () -> trail(4, 1, 1, 0).distance(0));
        due.is(2, () -> trail(4, 16, 16, 0).distance(0));
        due.is(2, () -> trail(4, 2, 4, 0).distance(0));
        due.is(6, () -> trail(3, 13, 15, 0).distance(0));
        due.about("promise 20: of TRAIL, a way that needs 16 of the 20 bits, the longest that can be the least");
        due.is(4, () -> trail(4, 19, 19, 0).distance(0));
        due.is(4, () -> trail(4, 25, 25, 0).distance(0));
        due.about("promise 20: of TRAIL, a way may go on without 1s, and comes back for the first time");
        due.is(4, () -> trail(1, 3, 3, 0).distance(0));
        due.is(4, () -> trail(2, 6, 6, 0).distance(0));
    }

    private static SoundingLine trail(int memory, int first, int second, int third) {
        SoundingLine x = new SoundingLine();
        x.trail(memory, first, second, third);
        return x;
    }

    private void distanceOfOthers() {
        due.about("promise 20: of others 1");
        SoundingLine x = new SoundingLine();
        x.check(2, 1);
        x.check(511, 32);
        x.weave(1, 1);
        x.weave(10, 10);
        for (int i = 0; i < 4; i++) {
            int stage = i;
            due.is(1, () -> x.distance(stage));
        }
    }

    private void wordsBounds() {
        due.about("promise 21: there is no such stage");
        for (int wrong : new int[] {-1, 4, 5, LEAST, MOST}) {
            four.refusePlace(x -> x.words(wrong, 0));
            four.refusePlace(x -> x.words(wrong, 11));
        }
        due.about("promise 21: it is no BLOCK");
        for (int other = 1; other <= 3; other++) {
            int stage = other;
            four.refuseArgument(x -> x.words(stage, 0));
            four.refuseArgument(x -> x.words(stage, 11));
        }
        sending320.refuseArgument(x -> x.words(0, 0));
        due.about("promise 21: ones is 0 to 10");
        four.answer(1, x -> x.words(0, 0));
        four.answer(0, x -> x.words(0, 10));
        for (int wrong : new int[] {-1, 11, LEAST, MOST}) {
            four.refuseArgument(x -> x.words(0, wrong));
        }
    }

    private void words() {
        due.about("promise 21: of all 2^k blocks");
        wordsAre(block(1, 1, 0, 0, 0, 0), "2 0 0 0 0 0 0 0 0 0 0");
        wordsAre(block(1, 10, 1023, 0, 0, 0), "1 0 0 0 0 0 0 0 0 0 1");
        wordsAre(block(1, 9, 511, 1, 1, 1), "1 0 0 0 0 0 0 0 0 1 0");
        wordsAre(block(2, 2, 2, 1, 0, 0), "1 2 1 0 0 0 0 0 0 0 0");
        wordsAre(block(3, 3, 4, 2, 1, 7), "1 3 3 1 0 0 0 0 0 0 0");
        wordsAre(block(4, 4, 8, 4, 2, 1), "1 4 6 4 1 0 0 0 0 0 0");
        wordsAre(block(4, 4, 0, 0, 0, 0), "16 0 0 0 0 0 0 0 0 0 0");
        wordsAre(block(4, 7, 70, 37, 19, 15), "1 0 0 7 7 0 0 1 0 0 0");
    }

    private void wordsAre(SoundingLine x, String want) {
        StringBuilder got = new StringBuilder();
        for (int ones = 0; ones <= 10; ones++) {
            got.append(ones == 0 ? "" : " ").append(x.words(0, ones));
        }
        due.same(want, got.toString());
    }

    private void rate() {
        due.about("promise 22: 0 if none is sent");
        due.is(0.0, () -> new SoundingLine().rate());
        SoundingLine empty = four();
        empty.clear();
        due.is(0.0, () -> empty.rate());
        due.about("promise 22: not cut");
        due.is(1.0, () -> Lines.of("0").rate());
        due.is(0.1, () -> sending320().rate());
        due.is(4.0 / 54, () -> four().rate());
        SoundingLine one = Lines.of("0");
        one.weave(10, 10);
        due.is(0.01, () -> one.rate());
    }

    private void errorsWith() {
        due.about("promise 23: a place in what is sent");
        for (int wrong : new int[] {-1, 54, 319, 320, LEAST, MOST}) {
            four.refusePlace(x -> x.errorsWith(wrong));
        }
        sending320.refusePlace(x -> x.errorsWith(320));
        due.about("promise 23: at the first and the last place, marked or not");
        SoundingLine x = Lines.of("0110");
        x.mark(0);
        due.is(0, () -> x.errorsWith(0));
        due.is(2, () -> x.errorsWith(1));
        due.is(2, () -> x.errorsWith(3));
        due.refusesPlace(() -> x.errorsWith(4));
        due.is(1, () -> x.errors());
        due.about("promise 23: a mark turns what the channel has turned, and no lost bit");
        x.channel(1, 1000, 0, 0);
        due.is(4, () -> x.errorsWith(0));
        due.is(2, () -> x.errorsWith(1));
        x.channel(3, 1000, 0, 0);
        due.is(4, () -> x.errorsWith(0));
        due.is(4, () -> x.errorsWith(1));
    }

    private void weak() {
        due.about("promise 24: more than errors(), not as many, not fewer");
        due.is(0, () -> new SoundingLine().weak());
        SoundingLine x = Lines.of("0110");
        due.is(4, () -> x.weak());
        x.mark(0);
        due.is(3, () -> x.weak());
        x.channel(2, 1, 3, 3);
        due.is(0, () -> x.weak());
        x.channel(3, 1000, 0, 0);
        due.is(0, () -> x.weak());
        SoundingLine three = Lines.of("1");
        three.repeat(3);
        due.is(0, () -> three.weak());
        three.mark(2);
        due.is(2, () -> three.weak());
        due.about("promise 24: every place of what is sent, the first and the last");
        SoundingLine all = Lines.holding(32);
        due.is(32, () -> all.weak());
        all.repeat(2);
        due.is(64, () -> all.weak());
        SoundingLine filled = Lines.of("1");
        filled.weave(10, 10);
        due.is(1, () -> filled.weak());
    }

    private void breaksBounds() {
        due.about("promise 25: from is 0 to 319");
        for (int wrong : new int[] {-1, 320, LEAST, MOST}) {
            four.refuseArgument(x -> x.breaks(wrong));
            sending320.refuseArgument(x -> x.breaks(wrong));
            due.refusesArgument(() -> new SoundingLine().breaks(wrong));
        }
        due.about("promise 25: there is no such place");
        due.is(0, () -> new SoundingLine().breaks(0));
        due.is(0, () -> new SoundingLine().breaks(319));
        four.answer(0, x -> x.breaks(54));
        four.answer(0, x -> x.breaks(319));
        due.is(1, () -> Lines.of("0110").breaks(3));
        due.is(0, () -> Lines.of("0110").breaks(4));
        // The last 5 are the check of the last bit.
        sending320.answer(0, x -> x.breaks(319));
        sending320.answer(0, x -> x.breaks(315));
        sending320.answer(0, x -> x.breaks(313));
        sending320.answer(3, x -> x.breaks(312));
        due.is(1, () -> endingOnABit().breaks(319));
    }

    private static SoundingLine endingOnABit() {
        SoundingLine x = Lines.holding(32);
        x.repeat(2);
        x.block(1, 5, 1, 0, 0, 0);
        return x;
    }

    private void breaks() {
        due.about("promise 25: the least number, from 1 on");
        SoundingLine x = Lines.of("10");
        x.repeat(5);
        due.is(3, () -> x.breaks(0));
        due.is(3, () -> x.breaks(2));
        due.is(5, () -> x.breaks(3));
        due.is(3, () -> x.breaks(7));
        due.is(0, () -> x.breaks(8));
        SoundingLine twice = Lines.of("1");
        twice.repeat(2);
        due.is(1, () -> twice.breaks(0));
        due.is(1, () -> twice.breaks(1));
        due.about("promise 25: these alone, whatever the channel is, and is marked");
        x.mark(0);
        x.mark(1);
        x.mark(2);
        due.is(3, () -> x.breaks(0));
        x.channel(1, 1000, 0, 0);
        due.is(3, () -> x.breaks(0));
        x.channel(3, 1000, 0, 0);
        due.is(3, () -> x.breaks(2));
        due.is(0, () -> x.breaks(8));
        due.about("promise 25: all of them to the last one");
        SoundingLine whole = Lines.of("0");
        whole.block(1, 9, 511, 0, 0, 0);
        due.is(5, () -> whole.breaks(0));
        due.is(5, () -> whole.breaks(4));
        due.is(0, () -> whole.breaks(5));
    }

    private void breaksNever() {
        due.about("promise 25: there would be errors with none of them");
        SoundingLine zeros = Lines.of("0000");
        zeros.block(2, 5, 0, 0, 0, 0);
        due.is(0, () -> zeros.breaks(0));
        due.is(0, () -> zeros.breaks(9));
        due.about("promise 25: there are errors already");
        SoundingLine wrong = Lines.of("0100");
        wrong.block(2, 5, 0, 0, 0, 0);
        due.is(1, () -> wrong.errors());
        due.is(1, () -> wrong.breaks(0));
        due.is(1, () -> wrong.breaks(9));
        due.is(0, () -> wrong.breaks(10));
        due.is(0, () -> wrong.breaks(319));
        due.about("promise 25: what fills breaks nothing");
        SoundingLine filled = Lines.of("1");
        filled.weave(1, 10);
        due.is(1, () -> filled.breaks(0));
        due.is(0, () -> filled.breaks(1));
    }

    private void meanErrorsBounds() {
        due.about("promise 26: p is 0 to 1000, runs is 1 to 20");
        for (int wrong : new int[] {-1, 1001, LEAST, MOST}) {
            four.refuseArgument(x -> x.meanErrors(wrong, 1));
            four.refuseArgument(x -> x.meanErrors(wrong, 20));
        }
        for (int wrong : new int[] {0, 21, -1, LEAST, MOST}) {
            four.refuseArgument(x -> x.meanErrors(0, wrong));
            four.refuseArgument(x -> x.meanErrors(1000, wrong));
        }
        due.about("promise 26: with no p none, with p 1000 all");
        SoundingLine x = Lines.of("0110");
        due.is(0.0, () -> x.meanErrors(0, 1));
        due.is(0.0, () -> x.meanErrors(0, 20));
        due.is(4.0, () -> x.meanErrors(1000, 1));
        due.is(4.0, () -> x.meanErrors(1000, 20));
        due.is(0.0, () -> new SoundingLine().meanErrors(1000, 1));
    }

    private void meanErrors() {
        due.about("promise 26: the mean of the errors with the seeds 1 to runs, not cut");
        for (int i = 1; i <= 20; i++) {
            int runs = i;
            SoundingLine x = Lines.of("1011001110001111");
            double sum = 0;
            for (int seed = 1; seed <= runs; seed++) {
                x.channel(1, 137, seed, 0);
                sum += x.errors();
            }
            double mean = sum / runs;
            due.is(mean, () -> x.meanErrors(137, runs));
            x.channel(3, 1000, 7, 0);
            due.is(mean, () -> x.meanErrors(137, runs));
        }
        due.about("promise 26: marked places are turned, too");
        SoundingLine x = Lines.of("0110");
        x.mark(1);
        x.mark(7);
        due.is(1.0, () -> x.meanErrors(0, 7));
        due.is(3.0, () -> x.meanErrors(1000, 7));
        x.channel(2, 0, 1, 2);
        due.is(1.0, () -> x.meanErrors(0, 20));
        due.is(3, () -> x.errors());
    }

    private void digestParts() {
        due.about("promise 27: each number, in order");
        due.is(digestOf(four()).longValue(), () -> four().digest());
        due.is(digestOf(blocksAndCheck()).longValue(), () -> blocksAndCheck().digest());
        due.is(digestOf(checked()).longValue(), () -> checked().digest());
        due.about("promise 27: eight numbers at least");
        due.is(58076L * 31 * 31 * 31 * 31 * 31 * 31 * 31 * 31, () -> new SoundingLine().digest());
    }

    private static SoundingLine blocksAndCheck() {
        SoundingLine x = Lines.of("111");
        x.block(2, 10, 1023, 513, 0, 0);
        x.block(1, 2, 3, 0, 0, 0);
        x.check(11, 5);
        x.channel(3, 300, 5, 0);
        return x;
    }

    private static SoundingLine checked() {
        SoundingLine x = Lines.of("10".repeat(16));
        x.check(7, 4);
        x.trail(1, 3, 2, 0);
        x.channel(1, 50, 3, 0);
        return x;
    }

    private void digestWraps() {
        due.about("promise 27: wraps around as a 64-bit integer");
        SoundingLine x = Lines.of("1");
        BigInteger whole = digestOf(x);
        due.is(false, () -> whole.bitLength() < 64);
        due.is(whole.longValue(), () -> x.digest());
        // With no message and no stage it does not wrap yet.
        BigInteger least = digestOf(new SoundingLine());
        due.is(true, () -> least.bitLength() < 64);
        due.is(least.toString(), () -> new SoundingLine().digest());
    }

    /** The checksum as a whole number that never wraps. */
    private static BigInteger digestOf(SoundingLine x) {
        Sum d = new Sum();
        d.add(x.length(), x.stages(), x.sent(), x.hurt(), x.errors());
        for (int stage = 0; stage < x.stages(); stage++) {
            for (int what = 0; what <= 4; what++) {
                d.add(x.ofStage(stage, what));
            }
            d.add(x.distance(stage));
            for (int ones = 0; ones <= 10 && x.ofStage(stage, 0) == 1; ones++) {
                d.add(x.words(stage, ones));
            }
        }
        for (char bit : interleaved(Lines.messageRow(x), Lines.decodedRow(x)).toCharArray()) {
            d.add(bit - '0');
        }
        for (char bit : interleaved(Lines.sentRow(x), Lines.comesRow(x)).toCharArray()) {
            d.add(bit - '0');
        }
        d.add(x.breaks(0), x.breaks(5), x.weak());
        return d.sum;
    }

    private static String interleaved(String one, String other) {
        StringBuilder both = new StringBuilder();
        for (int i = 0; i < one.length(); i++) {
            both.append(one.charAt(i)).append(other.charAt(i));
        }
        return both.toString();
    }

    /** A number that each number that is added to it moves on. */
    private static final class Sum {
        private BigInteger sum = BigInteger.valueOf(58076);

        void add(int... numbers) {
            for (int x : numbers) {
                sum = sum.multiply(BigInteger.valueOf(31)).add(BigInteger.valueOf(x));
            }
        }
    }

    private void asksChangeNothing() {
        due.about("promises 12 to 27: who asks changes nothing");
        SoundingLine x = four();
        four.answer(4, y -> y.length());
        four.answer(4, y -> y.stages());
        four.answer(54, y -> y.sent());
        four.answer(x.hurt(), y -> y.hurt());
        four.answer(x.errors(), y -> y.errors());
        four.answer(x.told(0, 1), y -> y.told(0, 1));
        four.answer(x.rate(), y -> y.rate());
        four.answer(x.errorsWith(53), y -> y.errorsWith(53));
        four.answer(x.weak(), y -> y.weak());
        four.answer(x.breaks(0), y -> y.breaks(0));
        four.answer(x.meanErrors(300, 20), y -> y.meanErrors(300, 20));
        four.answer(x.digest(), y -> y.digest());
        for (int stage = 0; stage < 4; stage++) {
            int number = stage;
            four.answer(x.distance(number), y -> y.distance(number));
            for (int of = 0; of <= 4; of++) {
                int what = of;
                four.answer(x.ofStage(number, what), y -> y.ofStage(number, what));
            }
        }
    }
}
