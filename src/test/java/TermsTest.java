import java.math.BigInteger;
import java.util.Arrays;

/** The edges of the document's terms: what stages make, what a channel does, and what is decoded of it. */
public final class TermsTest {
    private final Due due = new Due();

    public static void main(String[] args) {
        TermsTest test = new TermsTest();
        test.sent();
        test.filled();
        test.filledByStages();
        test.repeatCodes();
        test.blockCodes();
        test.checkCodes();
        test.checkOfManyBlocks();
        test.trailCodes();
        test.weaveCodes();
        test.channelCountsOn();
        test.noiseBelowP();
        test.burstsAtTheEnds();
        test.marksBehindTheChannel();
        test.marksBeyond();
        test.repeatDecodes();
        test.blockDecodes();
        test.blockLeavesFillingOut();
        test.checkDecodes();
        test.checkDamaged();
        test.trailDecodes();
        test.trailOfTwoWays();
        test.weaveDecodes();
        test.lostComesLost();
        test.mended();
        test.mendedFilling();
        test.mendedLost();
        test.errors();
        test.due.end();
    }

    /**
     * What comes to the stages of x is this row: behind them each bit is sent twice, and where one of both
     * is turned, a lost one comes.
     */
    private static SoundingLine arriving(SoundingLine x, String wanted) {
        String was = Lines.sentRow(x);
        x.repeat(2);
        for (int i = 0; i < was.length(); i++) {
            if (wanted.charAt(i) == was.charAt(i)) {
                continue;
            }
            x.mark(2 * i);
            if (wanted.charAt(i) != '2') {
                x.mark(2 * i + 1);
            }
        }
        return x;
    }

    private static SoundingLine repeated(String message, int n) {
        SoundingLine x = Lines.of(message);
        x.repeat(n);
        return x;
    }

    private static SoundingLine block(String message, int k, int n, int... rows) {
        SoundingLine x = Lines.of(message);
        int[] four = Arrays.copyOf(rows, 4);
        x.block(k, n, four[0], four[1], four[2], four[3]);
        return x;
    }

    private static SoundingLine check(String message, int divisor, int n) {
        SoundingLine x = Lines.of(message);
        x.check(divisor, n);
        return x;
    }

    private static SoundingLine trail(String message, int memory, int first, int second, int third) {
        SoundingLine x = Lines.of(message);
        x.trail(memory, first, second, third);
        return x;
    }

    private static SoundingLine weave(String message, int rows, int columns) {
        SoundingLine x = Lines.of(message);
        x.weave(rows, columns);
        return x;
    }

    private void sends(String want, SoundingLine x) {
        due.same(want, Lines.sentRow(x));
    }

    private void decodes(String want, SoundingLine x) {
        due.same(want, Lines.decodedRow(x));
    }

    private void sent() {
        due.about("term 1: the message itself, without stages");
        sends("", new SoundingLine());
        sends("1", Lines.of("1"));
        String full = "10110011100011110000111110000011";
        sends(full, Lines.of(full));
        due.about("term 1: each stage codes what the one ahead made, numbered from 0");
        SoundingLine x = repeated("10", 2);
        x.weave(2, 2);
        x.check(3, 2);
        sends("101101", x);
        due.is(0, () -> x.ofStage(0, 0));
        due.is(4, () -> x.ofStage(1, 0));
        due.is(2, () -> x.ofStage(2, 0));
    }

    private void filled() {
        due.about("term 1: filled with 0s to a multiple; an empty row stays");
        for (int length = 0; length <= 21; length++) {
            String row = "1".repeat(length);
            for (int k = 1; k <= 4; k++) {
                sends(padded(row, k), block(row, k, k, oneEach(k)));
            }
            for (int each = 1; each <= 10; each++) {
                sends(padded(row, each), weave(row, 1, each));
                sends(padded(row, each), weave(row, each, 1));
                // The divisor 2 leaves no rest but 0.
                sends(zeroBehindEach(padded(row, each), each), check(row, 2, each));
            }
            due.is(length == 0 ? 0 : 100, () -> weave(row, 10, 10).sent());
        }
    }

    private static String padded(String row, int each) {
        String full = row;
        while (full.length() % each != 0) {
            full += "0";
        }
        return full;
    }

    private static String zeroBehindEach(String row, int each) {
        StringBuilder made = new StringBuilder();
        for (int start = 0; start < row.length(); start += each) {
            made.append(row, start, start + each).append('0');
        }
        return made.toString();
    }

    private static int[] oneEach(int k) {
        int[] rows = new int[k];
        for (int i = 0; i < k; i++) {
            rows[i] = 1 << k - 1 - i;
        }
        return rows;
    }

    private void filledByStages() {
        due.about("term 1: each stage fills what the one ahead made");
        SoundingLine x = repeated("1", 3);
        x.block(2, 2, 2, 1, 0, 0);
        sends("1110", x);
        x.weave(1, 3);
        sends("111000", x);
        x.check(2, 4);
        sends("1110000000", x);
        due.is(1, () -> x.length());
        due.is("1 3", () -> x.ofStage(0, 1) + " " + x.ofStage(0, 2));
        due.is("3 4", () -> x.ofStage(1, 1) + " " + x.ofStage(1, 2));
        due.is("4 6", () -> x.ofStage(2, 1) + " " + x.ofStage(2, 2));
        due.is("6 10", () -> x.ofStage(3, 1) + " " + x.ofStage(3, 2));
        decodes("1", x);
    }

    private void repeatCodes() {
        due.about("term 1: REPEAT, each bit n times");
        sends("", repeated("", 5));
        sends("110011", repeated("101", 2));
        sends("111000111", repeated("101", 3));
        sends("111100001111", repeated("101", 4));
        sends("111110000011111", repeated("101", 5));
    }

    private void blockCodes() {
        due.about("term 1: BLOCK, the first bit counts most, the first row is of the first bit");
        sends("", block("", 4, 10, 1, 2, 3, 4));
        sends("1000000001", block("1", 1, 10, 513));
        sends("0000000000", block("0", 1, 10, 513));
        sends("11000" + "00110" + "00001", block("100010001", 3, 5, 24, 6, 1));
        sends("1100" + "0010" + "0001" + "0000", block("1000010000100001", 4, 4, 12, 2, 1, 0));
        due.about("term 1: BLOCK, by either: 1 if the number of 1s is odd");
        for (String message : "0000 0100 0110 1110 1111 0011 0001".split(" ")) {
            String odd = message.replace("0", "").length() % 2 == 1 ? "1" : "0";
            sends("0" + odd + odd + "0", block(message, 4, 4, 6, 6, 6, 6));
        }
        sends("1001", block("11", 2, 4, 14, 7));
        due.about("term 1: BLOCK, rows that there are not are not added");
        sends("000", block("0", 1, 3, 0, 7, 7, 7));
        sends("110", block("11", 2, 3, 4, 2, 7, 7));
    }

    private void checkCodes() {
        due.about("term 1: CHECK, a rest of 1 to 8 bits");
        sends("", check("", 511, 32));
        sends("10", check("1", 2, 1));
        sends("11", check("1", 3, 1));
        sends("00", check("0", 3, 1));
        sends("100", check("1", 4, 1));
        sends("111", check("1", 7, 1));
        sends("11111111", check("1", 255, 1));
        sends("100000000", check("1", 256, 1));
        sends("111111111", check("1", 511, 1));
        sends("100000001", check("1", 257, 1));
        due.about("term 1: CHECK, from the first bit on, wherever there is a 1 then among the first n");
        // The divisor, added at the first bit, makes a 1 of the second one.
        sends("10" + "00000001", check("10", 511, 2));
        sends("11" + "11111110", check("11", 511, 2));
        sends("1101" + "001", check("1101", 11, 4));
        sends("0001" + "011", check("0001", 11, 4));
        sends("1000" + "101", check("1000", 11, 4));
    }

    private void checkOfManyBlocks() {
        due.about("term 1: CHECK, a rest behind each block");
        sends("11" + "11" + "00" + "11", check("1101", 3, 1));
        sends("110" + "000" + "011" + "101", check("1100011", 3, 2));
        String ones = "1".repeat(31);
        sends(ones + "01", check(ones, 3, 32));
        sends(ones + "10", check(ones + "1", 3, 32));
        sends(ones + "1" + "1" + "0".repeat(30) + "1", check(ones + "1", 3, 31));
    }

    private void trailCodes() {
        due.about("term 1: TRAIL, an empty row stays empty");
        sends("", trail("", 1, 1, 1, 0));
        sends("", trail("", 4, 31, 31, 31));
        due.about("term 1: TRAIL, the bit, then the latest one ahead counts most, 0 at first, m 0s behind");
        sends("10" + "01", trail("1", 1, 2, 1, 0));
        sends("00" + "00", trail("0", 1, 2, 1, 0));
        sends("10" + "11" + "01", trail("11", 1, 2, 1, 0));
        sends("100" + "010" + "000" + "000" + "001", trail("1", 4, 16, 8, 1));
        sends("00" + "00" + "10" + "01" + "00", trail("1", 4, 4, 2, 0));
        due.about("term 1: TRAIL, one bit for each of 2 or 3 masks, 1 if the number of 1s is odd");
        sends("11" + "11", trail("1", 1, 3, 3, 0));
        sends("11" + "00" + "11", trail("11", 1, 3, 3, 0));
        sends("110" + "101", trail("1", 1, 3, 2, 1));
        sends("110" + "101" + "000", trail("10", 1, 3, 2, 1));
        sends("11" + "10" + "00" + "01" + "01" + "11", trail("1011", 2, 7, 5, 0));
    }

    private void weaveCodes() {
        due.about("term 1: WEAVE, a rows of c bits, read column by column, each from above");
        sends("", weave("", 10, 10));
        sends("1", weave("1", 1, 1));
        sends("110100", weave("100110", 2, 3));
        sends("101010", weave("100110", 3, 2));
        sends("100110", weave("100110", 1, 6));
        sends("100110", weave("100110", 6, 1));
        due.about("term 1: WEAVE, block by block");
        sends("110100" + "110010", weave("100110" + "101100", 2, 3));
        sends("1010" + "1000", weave("11001", 2, 2));
    }

    private void channelCountsOn() {
        for (int seed : new int[] {0, 1, 2, 77777, 999999, 1000000}) {
            for (int p : new int[] {0, 1, 500, 999, 1000}) {
                due.about("term 2: NOISE and LOSS of " + p + " by the seed " + seed + ", over 320 bits");
                String sent = Lines.sentRow(sending320());
                SoundingLine x = sending320();
                x.channel(1, p, seed, 0);
                due.same(hit(sent, p, seed, false), Lines.comesRow(x));
                SoundingLine y = sending320();
                y.channel(3, p, seed, 0);
                due.same(hit(sent, p, seed, true), Lines.comesRow(y));
            }
        }
    }

    private static SoundingLine sending320() {
        SoundingLine x = repeated("01101001100101101001011001101001", 5);
        x.repeat(2);
        return x;
    }

    /** The document's x, as a whole number that never wraps. */
    private static String hit(String sent, int p, int seed, boolean loses) {
        BigInteger x = BigInteger.valueOf(seed);
        StringBuilder comes = new StringBuilder();
        for (char bit : sent.toCharArray()) {
            x = x.multiply(BigInteger.valueOf(1103515245)).add(BigInteger.valueOf(12345));
            x = x.mod(BigInteger.valueOf(2147483648L));
            boolean hit = x.divide(BigInteger.valueOf(65536)).mod(BigInteger.valueOf(1000)).intValue() < p;
            comes.append(!hit ? bit : loses ? '2' : bit == '0' ? '1' : '0');
        }
        return comes.toString();
    }

    private void noiseBelowP() {
        due.about("term 2: less than p");
        // With the seed 0 the first number is 0, with the seed 1 it is 838.
        for (int kind : new int[] {1, 3}) {
            String hit = kind == 1 ? "1" : "2";
            SoundingLine x = Lines.of("0");
            x.channel(kind, 0, 0, 0);
            due.same("0", Lines.comesRow(x));
            x.channel(kind, 1, 0, 0);
            due.same(hit, Lines.comesRow(x));
            x.channel(kind, 838, 1, 0);
            due.same("0", Lines.comesRow(x));
            x.channel(kind, 839, 1, 0);
            due.same(hit, Lines.comesRow(x));
        }
        for (int seed = 0; seed <= 1000000; seed += 1234) {
            int first = (int) ((seed * 1103515245L + 12345L) % 2147483648L / 65536 % 1000);
            due.about("term 2: less than p, by the seed " + seed);
            SoundingLine x = Lines.of("0");
            x.channel(1, first, seed, 0);
            due.same("0", Lines.comesRow(x));
            x.channel(1, first + 1, seed, 0);
            due.same("1", Lines.comesRow(x));
        }
        due.about("term 2: 1 becomes 0, too");
        SoundingLine one = Lines.of("10");
        one.channel(1, 1000, 3, 0);
        due.same("01", Lines.comesRow(one));
    }

    private void burstsAtTheEnds() {
        due.about("term 2: BURSTS, from beginning to beginning, as far as bits are sent");
        burst("1111111111", 0, 1, 1);
        burst("0001111111", 3, 2, 2);
        burst("0111011101", 1, 3, 4);
        burst("1000000000", 0, 1, 320);
        burst("1000000001", 0, 1, 9);
        burst("1000000000", 0, 1, 10);
        burst("0000000011", 8, 50, 50);
        burst("0000000001", 9, 50, 320);
        burst("0000000000", 10, 50, 50);
        burst("0000000000", 320, 50, 50);
        burst("1111111111", 0, 50, 320);
        burstOf320(("1".repeat(50) + "0".repeat(50)).repeat(3) + "1".repeat(20), 0, 50, 100);
        burstOf320("0".repeat(319) + "1", 319, 50, 50);
        burstOf320("0".repeat(320), 320, 50, 50);
        burstOf320("1" + "0".repeat(318) + "1", 0, 1, 319);
        burstOf320("1" + "0".repeat(319), 0, 1, 320);
        due.about("term 2: BURSTS turn, 1 to 0, too");
        SoundingLine ones = Lines.of("1100");
        ones.channel(2, 1, 2, 5);
        due.same("1010", Lines.comesRow(ones));
    }

    private void burst(String want, int from, int length, int apart) {
        SoundingLine x = Lines.holding(10);
        x.channel(2, from, length, apart);
        due.same(want, Lines.comesRow(x));
    }

    private void burstOf320(String want, int from, int length, int apart) {
        SoundingLine x = repeated("0".repeat(32), 5);
        x.repeat(2);
        x.channel(2, from, length, apart);
        due.same(want, Lines.comesRow(x));
    }

    private void marksBehindTheChannel() {
        due.about("term 2: marked bits are turned behind the channel, lost ones stay so");
        SoundingLine x = Lines.of("0110");
        x.mark(0);
        x.mark(1);
        due.same("1010", Lines.comesRow(x));
        x.channel(1, 1000, 0, 0);
        due.same("0101", Lines.comesRow(x));
        x.channel(2, 1, 1, 2);
        due.same("1111", Lines.comesRow(x));
        x.channel(3, 1000, 0, 0);
        due.same("2222", Lines.comesRow(x));
        x.channel(3, 500, 1, 0);
        // Of the first bits the third one is lost.
        due.same("1020", Lines.comesRow(x));
        x.mark(2);
        due.same("1020", Lines.comesRow(x));
        x.channel(0, 0, 0, 0);
        due.same("1000", Lines.comesRow(x));
    }

    private void marksBeyond() {
        due.about("term 2: places beyond what is sent stay marked");
        SoundingLine x = Lines.of("0");
        x.mark(1);
        x.mark(319);
        due.same("0", Lines.comesRow(x));
        x.clear();
        due.is(0, () -> x.hurt());
        x.write(0, 2);
        due.same("01", Lines.comesRow(x));
        x.write(0, 16);
        x.write(0, 14);
        x.repeat(5);
        due.is(1, () -> x.hurt());
        x.repeat(2);
        due.is(2, () -> x.hurt());
        due.is(1, () -> x.bit(319, 1));
        x.drop();
        x.drop();
        due.is(1, () -> x.hurt());
        due.is(1, () -> x.mark(319));
        due.is(0, () -> x.mark(1));
    }

    private void repeatDecodes() {
        due.about("term 3: REPEAT, more of them 1, more of them 0, otherwise lost");
        repeatDecodes(2, "00 0, 01 2, 10 2, 11 1, 02 0, 20 0, 12 1, 21 1, 22 2");
        repeatDecodes(3, "000 0, 001 0, 011 1, 111 1, 012 2, 201 2, 022 0, 221 1, 222 2, 002 0, 211 1");
        repeatDecodes(4, "0011 2, 0001 0, 0111 1, 0122 2, 0112 1, 2001 0, 2222 2, 2221 1");
        repeatDecodes(5, "00011 0, 00111 1, 00112 2, 22201 2, 22220 0, 22221 1, 22222 2, 01112 1, 10002 0");
    }

    private void repeatDecodes(int n, String cases) {
        for (String each : cases.split(", ")) {
            String[] two = each.split(" ");
            decodes(two[1], arriving(repeated("0", n), two[0]));
            decodes(two[1], arriving(repeated("1", n), two[0]));
            // The second of two bits, too, and by itself.
            decodes("1" + two[1], arriving(repeated("10", n), "1".repeat(n) + two[0]));
        }
    }

    private void blockDecodes() {
        due.about("term 3: BLOCK, the word that is the least far, of several that of the smallest number");
        blockDecodes("0 0, 1 1, 2 0", 1, 1, 1);
        blockDecodes("00 0, 01 0, 10 0, 11 1, 21 1, 12 1, 20 0, 22 0", 1, 2, 3);
        // The words are 0000, 0111, 1110 and 1001.
        blockDecodes("0000 00, 0111 01, 1110 10, 1001 11, 1000 00, 0001 00, 0100 00, 0010 00", 2, 4, 14, 7);
        blockDecodes("1111 01, 0110 01, 1101 11, 1011 11, 0011 01, 1100 10, 0101 01, 1010 10", 2, 4, 14, 7);
        due.about("term 3: BLOCK, lost bits are not looked at");
        blockDecodes("2222 00, 2111 01, 1112 10, 2112 01, 1221 11, 1222 10, 2221 01, 2002 00, 2200 00", 2, 4, 14, 7);
        due.about("term 3: BLOCK, words that are the same");
        blockDecodes("00 00, 11 01, 01 00, 10 00, 21 01, 22 00", 2, 2, 3, 3);
        blockDecodes("000 00, 111 00, 212 00", 2, 3, 0, 0);
        blockDecodes("0000 0000, 0001 0001, 1000 0010, 1001 0011, 0110 0000", 4, 4, 9, 0, 8, 1);
        due.about("term 3: BLOCK, the last number of all, of 10 bits");
        blockDecodes("0000000011 1111, 2000000011 1111, 0000000001 0000, 2222222222 0000",
            4, 10, 0x3E0, 0x01F, 0x2AA, 0x156);
    }

    private void blockDecodes(String cases, int k, int n, int... rows) {
        for (String each : cases.split(", ")) {
            String[] two = each.split(" ");
            decodes(two[1], arriving(block("0".repeat(k), k, n, rows), two[0]));
            decodes(two[1], arriving(block("1".repeat(k), k, n, rows), two[0]));
        }
    }

    private void blockLeavesFillingOut() {
        due.about("term 3: what filled the row is left out");
        SoundingLine x = arriving(block("101", 2, 4, 14, 7), "1110" + "1001");
        decodes("101", x);
        SoundingLine y = arriving(block("101", 2, 4, 14, 7), "1110" + "0111");
        decodes("100", y);
        SoundingLine one = arriving(block("1", 4, 4, 8, 4, 2, 1), "0111");
        decodes("0", one);
        due.is(1, () -> one.errors());
        SoundingLine other = arriving(block("1", 4, 4, 8, 4, 2, 1), "1111");
        decodes("1", other);
        due.is(0, () -> other.errors());
    }

    private void checkDecodes() {
        due.about("term 3: CHECK, the bits of the block as they are");
        decodes("012", arriving(check("110", 3, 3), "0120"));
        decodes("012", arriving(check("000", 3, 3), "0121"));
        decodes("10" + "12" + "2", arriving(check("00000", 3, 2), "100" + "121" + "210"));
        decodes("222", arriving(check("101", 511, 1), "2".repeat(27)));
    }

    private void checkDamaged() {
        due.about("term 3: CHECK, damaged by a lost bit or another rest");
        damaged("10", "101 0, 011 0, 000 0, 110 0, 100 1, 001 1, 111 1, 201 1, 121 1, 102 1, 222 1");
        due.about("term 3: CHECK, damaged, a filled one, too");
        damaged("1", "101 0, 011 0, 111 1, 121 1, 102 1, 100 1");
        due.about("term 3: CHECK, how many blocks are damaged");
        damaged("101", "101101 0, 100101 1, 101100 1, 100100 2, 201121 2, 101111 1");
        due.about("term 3: CHECK, a rest of 8 bits, its first and its last one");
        SoundingLine first = check("1", 257, 1);
        first.mark(1);
        due.is(1, () -> first.ofStage(0, 4));
        first.mark(1);
        first.mark(8);
        due.is(1, () -> first.ofStage(0, 4));
        first.mark(0);
        due.is(0, () -> first.ofStage(0, 4));
        due.about("term 3: CHECK, all of 32 blocks");
        SoundingLine all = check("1".repeat(32), 3, 1);
        all.channel(2, 0, 1, 2);
        due.is(32, () -> all.ofStage(0, 4));
        all.channel(2, 1, 1, 2);
        due.is(32, () -> all.ofStage(0, 4));
        all.channel(1, 1000, 0, 0);
        due.is(0, () -> all.ofStage(0, 4));
        due.is(32, () -> all.errors());
    }

    private void damaged(String message, String cases) {
        for (String each : cases.split(", ")) {
            String[] two = each.split(" ");
            SoundingLine x = arriving(check(message, 3, 2), two[0]);
            due.is(two[1], () -> x.ofStage(0, 4));
        }
    }

    private void trailDecodes() {
        due.about("term 3: TRAIL, the row that makes the fewest others, lost ones left out");
        // 0 makes 0000, 1 makes 1001.
        trailDecodes("0000 0, 1001 1, 0001 0, 1000 0, 1101 1, 1011 1, 0110 0", 1, 2, 1, 0);
        trailDecodes("2222 0, 1222 1, 2221 1, 2220 0, 2001 1, 1002 1, 2000 0, 2112 0", 1, 2, 1, 0);
        // 1 makes 111111, with three masks that are the same.
        trailDecodes("111000 0, 111100 1, 112000 0, 112200 0, 112202 1, 112220 1, 222222 0", 1, 3, 3, 3);
        due.about("term 3: TRAIL, the 0s behind are not in what is decoded");
        decodes("1011", trail("1011", 4, 19, 29, 0));
        decodes("1".repeat(32), trail("1".repeat(32), 4, 19, 29, 23));
        SoundingLine lost = trail("1".repeat(32), 4, 19, 29, 23);
        lost.channel(3, 1000, 0, 0);
        decodes("0".repeat(32), lost);
    }

    private void trailDecodes(String cases, int memory, int first, int second, int third) {
        for (String each : cases.split(", ")) {
            String[] two = each.split(" ");
            decodes(two[1], arriving(trail("0", memory, first, second, third), two[0]));
            decodes(two[1], arriving(trail("1", memory, first, second, third), two[0]));
        }
    }

    private void trailOfTwoWays() {
        due.about("term 3: TRAIL, of two ways with the same that from the smaller s ahead");
        // 10 makes 11101100, 01 makes 00111011: both are 3 away, 00 is 4, and 11 is 6.
        decodes("10", arriving(trail("00", 2, 7, 5, 0), "00111100"));
        decodes("10", arriving(trail("01", 2, 7, 5, 0), "22121222"));
        decodes("01", arriving(trail("01", 2, 7, 5, 0), "22121221"));
        decodes("01", arriving(trail("10", 2, 7, 5, 0), "00111101"));
        due.about("term 3: TRAIL, that to s = 0 in the end");
        // 1101 would be nearer, but it comes of 11, and behind the one bit there is a 0.
        decodes("0", arriving(trail("1", 1, 3, 2, 0), "0101"));
    }

    private void weaveDecodes() {
        due.about("term 3: WEAVE, back to where they were, what filled it left out");
        decodes("012012", arriving(weave("000000", 2, 3), "001122"));
        decodes("012012", arriving(weave("111111", 3, 2), "021102"));
        decodes("01201", arriving(weave("00000", 2, 3), "001122"));
        decodes("0", arriving(weave("1", 2, 2), "0111"));
        decodes("2", arriving(weave("1", 2, 2), "2000"));
    }

    private void lostComesLost() {
        due.about("term 3: what a stage decodes as lost comes lost to the one ahead");
        decodes("0", arriving(woven(repeated("1", 2)), "02"));
        decodes("1", arriving(woven(repeated("0", 2)), "21"));
        decodes("2", arriving(woven(repeated("0", 2)), "22"));
        SoundingLine checked = repeated("1", 2);
        checked.check(2, 2);
        decodes("1", arriving(checked, "120"));
        SoundingLine block = arriving(woven(block("1", 1, 2, 3)), "21");
        decodes("1", block);
        due.is(1, () -> block.ofStage(0, 3));
        SoundingLine trail = arriving(woven(trail("1", 1, 2, 1, 0)), "2201");
        decodes("1", trail);
        due.is(2, () -> trail.ofStage(0, 3));
        SoundingLine check = arriving(woven(check("1", 3, 1)), "12");
        due.is(1, () -> check.ofStage(0, 4));
    }

    private static SoundingLine woven(SoundingLine x) {
        x.weave(1, 2);
        return x;
    }

    private void mends(int want, SoundingLine x) {
        due.is(want, () -> x.ofStage(0, 3));
    }

    private void mended() {
        due.about("term 3: mended, none and some");
        mends(0, repeated("10", 5));
        mends(0, block("101", 2, 4, 14, 7));
        mends(0, check("101", 11, 2));
        mends(0, trail("101", 2, 7, 5, 3));
        mends(0, weave("101", 2, 2));
        mends(1, arriving(repeated("1", 3), "110"));
        mends(1, arriving(repeated("1", 3), "001"));
        mends(0, arriving(repeated("1", 3), "000"));
        mends(1, arriving(block("00", 2, 4, 14, 7), "1000"));
        mends(1, arriving(block("00", 2, 4, 14, 7), "0110"));
        mends(0, arriving(block("00", 2, 4, 14, 7), "1001"));
        mends(4, arriving(block("0", 1, 4, 0), "1111"));
        mends(1, arriving(check("10", 3, 2), "100"));
        mends(1, arriving(check("10", 3, 2), "001"));
        mends(8, arriving(check("0", 511, 1), "011111111"));
        mends(1, arriving(trail("0", 1, 2, 1, 0), "0001"));
        mends(1, arriving(trail("0", 1, 2, 1, 0), "1101"));
        mends(0, arriving(trail("0", 1, 2, 1, 0), "1001"));
        mends(0, arriving(weave("100110", 2, 3), "001011"));
        due.about("term 3: mended by each stage, of what came to it");
        SoundingLine x = repeated("1", 3);
        x.repeat(3);
        x.channel(2, 0, 4, 50);
        // 000 011 111 comes, 011 is decoded of it.
        due.is(1, () -> x.ofStage(0, 3));
        due.is(1, () -> x.ofStage(1, 3));
        due.is(4, () -> x.hurt());
        due.is(0, () -> x.errors());
    }

    private void mendedFilling() {
        due.about("term 3: mended, places of what filled it as all others");
        SoundingLine block = arriving(block("1", 2, 4, 14, 7), "1001");
        mends(3, block);
        due.is(0, () -> block.errors());
        mends(2, arriving(check("1", 3, 2), "110"));
        mends(1, arriving(check("1", 3, 2), "111"));
        mends(3, arriving(weave("1", 2, 2), "1111"));
        mends(3, arriving(weave("1", 2, 2), "0111"));
        mends(99, arriving(weave("1", 10, 10), "1".repeat(100)));
    }

    private void mendedLost() {
        due.about("term 3: mended, lost ones counted, too");
        mends(1, arriving(repeated("1", 3), "211"));
        mends(2, arriving(repeated("1", 3), "220"));
        mends(1, arriving(block("00", 2, 4, 14, 7), "2000"));
        mends(4, arriving(block("00", 2, 4, 14, 7), "2222"));
        mends(4, arriving(trail("1", 1, 2, 1, 0), "2222"));
        mends(1, arriving(weave("1", 1, 2), "12"));
        mends(1, arriving(check("11", 3, 2), "112"));
        due.about("term 3: mended, of lost bits that it decoded 0 is coded");
        mends(3, arriving(repeated("1", 3), "222"));
        mends(2, arriving(repeated("1", 3), "201"));
        mends(1, arriving(weave("11", 1, 2), "21"));
        mends(2, arriving(check("11", 3, 2), "210"));
        mends(1, arriving(check("11", 3, 2), "211"));
        mends(2, arriving(check("11", 3, 2), "220"));
        mends(3, arriving(check("11", 3, 2), "221"));
        SoundingLine pairs = arriving(repeated("1", 3), "222");
        due.is(3, () -> pairs.ofStage(1, 3));
    }

    private void errors() {
        due.about("term 3: errors, lost ones, too");
        SoundingLine x = arriving(weave("0101", 1, 4), "0122");
        due.is(2, () -> x.errors());
        SoundingLine y = arriving(weave("0101", 1, 4), "1022");
        due.is(4, () -> y.errors());
        SoundingLine z = arriving(weave("0101", 1, 4), "0101");
        due.is(0, () -> z.errors());
        due.about("term 3: without stages what comes is decoded in all");
        SoundingLine bare = Lines.of("0101");
        bare.channel(3, 500, 1, 0);
        bare.mark(0);
        decodes("1121", bare);
        due.is(2, () -> bare.errors());
    }
}
