/** A laboratory for codes that mend errors. */
public final class SoundingLine {
    private static final int MOST_WRITTEN = 32;
    private static final int MOST_AT_ONCE = 16;
    private static final int MOST_SENT = 320;
    private static final int MOST_STAGES = 4;
    private static final int MOST_MEMORY = 4;
    private static final int MOST_ONES = 10;

    private static final int LOST = 2;

    private static final int REPEAT = 0;
    private static final int BLOCK = 1;
    private static final int CHECK = 2;
    private static final int TRAIL = 3;
    private static final int WEAVE = 4;

    private static final int STILL = 0;
    private static final int NOISE = 1;
    private static final int BURSTS = 2;
    private static final int LOSS = 3;

    // Far above the farness of any way, and far below where sums of it would wrap.
    private static final int TOO_FAR = 1000000;

    private final Chain chain;
    private final Line line;
    private final Line supposedLine;
    private final Row marked;
    private final Levels coded;
    private final Levels came;
    private final Levels supposed;
    private final Lattice lattice;

    /** Creates a laboratory with an empty message, without stages, with a still channel. */
    public SoundingLine() {
        chain = new Chain();
        line = new Line();
        supposedLine = new Line();
        marked = new Row(MOST_SENT);
        marked.resize(MOST_SENT);
        coded = new Levels();
        came = new Levels();
        supposed = new Levels();
        lattice = new Lattice();
    }

    // ---- the message

    /** Writes bits behind the message; returns how many it has then. */
    public int write(int n, int many) throws IllegalArgumentException, IllegalStateException {
        if (many < 1 || many > MOST_AT_ONCE) {
            throw new IllegalArgumentException("many is not 1 to 16");
        }
        if (!fits(n, many)) {
            throw new IllegalArgumentException("n is not 0 to 2^many - 1");
        }
        Row message = coded.at(0);
        int had = message.size();
        int has = had + many;
        if (has > MOST_WRITTEN) {
            throw new IllegalStateException("the message would have more than 32 bits");
        }
        if (chain.sizeAtEnd(has) > MOST_SENT) {
            throw new IllegalStateException("more than 320 bits would be sent");
        }
        message.resize(has);
        message.putNumber(had, n, many);
        settle();
        return has;
    }

    /** Empties the message; returns how many bits it had. */
    public int clear() {
        Row message = coded.at(0);
        int had = message.size();
        message.resize(0);
        settle();
        return had;
    }

    // ---- stages

    /** Puts a stage that repeats each bit; returns how many bits are sent then. */
    public int repeat(int n) throws IllegalArgumentException, IllegalStateException {
        if (n < 2 || n > 5) {
            throw new IllegalArgumentException("n is not 2 to 5");
        }
        return putBehind(new Repeat(n));
    }

    /** Puts a stage that codes block by block; returns how many bits are sent then. */
    public int block(int k, int n, int first, int second, int third, int fourth)
            throws IllegalArgumentException, IllegalStateException {
        if (k < 1 || k > 4) {
            throw new IllegalArgumentException("k is not 1 to 4");
        }
        if (n < k || n > 10) {
            throw new IllegalArgumentException("n is not k to 10");
        }
        boolean rowsFit = fits(first, n)
            && (k < 2 || fits(second, n))
            && (k < 3 || fits(third, n))
            && (k < 4 || fits(fourth, n));
        if (!rowsFit) {
            throw new IllegalArgumentException("a row is not 0 to 2^n - 1");
        }
        return putBehind(new Block(k, n, first, second, third, fourth));
    }

    /** Puts a stage that adds checks; returns how many bits are sent then. */
    public int check(int divisor, int n) throws IllegalArgumentException, IllegalStateException {
        if (divisor < 2 || divisor > 511) {
            throw new IllegalArgumentException("divisor is not 2 to 511");
        }
        if (n < 1 || n > 32) {
            throw new IllegalArgumentException("n is not 1 to 32");
        }
        return putBehind(new Check(divisor, n));
    }

    /** Puts a stage that codes along a trail; returns how many bits are sent then. */
    public int trail(int memory, int first, int second, int third)
            throws IllegalArgumentException, IllegalStateException {
        if (memory < 1 || memory > MOST_MEMORY) {
            throw new IllegalArgumentException("memory is not 1 to 4");
        }
        int bits = memory + 1;
        if (first == 0 || second == 0 || !fits(first, bits) || !fits(second, bits)) {
            throw new IllegalArgumentException("first or second is not 1 to 2^(m + 1) - 1");
        }
        if (!fits(third, bits)) {
            throw new IllegalArgumentException("third is not 0 to 2^(m + 1) - 1");
        }
        return putBehind(new Trail(memory, first, second, third, lattice));
    }

    /** Puts a stage that weaves; returns how many bits are sent then. */
    public int weave(int rows, int columns) throws IllegalArgumentException, IllegalStateException {
        if (rows < 1 || rows > 10 || columns < 1 || columns > 10) {
            throw new IllegalArgumentException("rows or columns is not 1 to 10");
        }
        return putBehind(new Weave(rows, columns));
    }

    /** Takes the last stage away; returns how many there are then. */
    public int drop() throws IllegalStateException {
        if (chain.count() == 0) {
            throw new IllegalStateException("there is no stage");
        }
        chain.removeLast();
        settle();
        return chain.count();
    }

    // ---- the channel

    /** Sets the channel; returns what it was. */
    public int channel(int kind, int a, int b, int c) throws IllegalArgumentException {
        if (kind < STILL || kind > LOSS) {
            throw new IllegalArgumentException("kind is not 0 to 3");
        }
        if ((kind == NOISE || kind == LOSS) && (a < 0 || a > 1000 || b < 0 || b > 1000000)) {
            throw new IllegalArgumentException("p is not 0 to 1000, or the seed is not 0 to 1000000");
        }
        if (kind == BURSTS && (a < 0 || a > MOST_SENT || b < 1 || b > 50 || c < b || c > MOST_SENT)) {
            throw new IllegalArgumentException("the bursts' place, length or distance is not allowed");
        }
        int was = line.kind();
        line.become(kind, a, b, c);
        settle();
        return was;
    }

    /** Marks a place, or takes its mark away; returns how many are marked then. */
    public int mark(int place) throws IndexOutOfBoundsException {
        if (place < 0 || place >= MOST_SENT) {
            throw new IndexOutOfBoundsException("place is not 0 to 319");
        }
        marked.turn(place);
        settle();
        return marked.ones();
    }

    // ---- asking

    /** Returns how many bits the message has. */
    public int length() {
        return coded.at(0).size();
    }

    /** Returns how many stages there are. */
    public int stages() {
        return chain.count();
    }

    /** Returns what a stage is, codes, makes, mended, or found damaged. */
    public int ofStage(int stage, int what) throws IndexOutOfBoundsException, IllegalArgumentException {
        Stage asked = chain.stageAt(stage);
        if (asked == null) {
            throw new IndexOutOfBoundsException("there is no such stage");
        }
        switch (what) {
            case 0:
                return asked.kind();
            case 1:
                return coded.at(stage).size();
            case 2:
                return coded.at(stage + 1).size();
            case 3:
                return mendedBy(asked, stage);
            case 4:
                return asked.damagedIn(came.at(stage + 1));
            default:
                throw new IllegalArgumentException("what is not 0 to 4");
        }
    }

    /** Returns how many bits are sent. */
    public int sent() {
        return last(coded).size();
    }

    /** Returns the bit that is sent at a place, or what comes there. */
    public int bit(int place, int what) throws IndexOutOfBoundsException, IllegalArgumentException {
        if (place < 0 || place >= last(coded).size()) {
            throw new IndexOutOfBoundsException("there is no such place in what is sent");
        }
        if (what != 0 && what != 1) {
            throw new IllegalArgumentException("what is not 0 or 1");
        }
        return what == 0 ? last(coded).get(place) : last(came).get(place);
    }

    /** Returns the bit of the message at a place, or what is decoded there. */
    public int told(int place, int what) throws IndexOutOfBoundsException, IllegalArgumentException {
        if (place < 0 || place >= coded.at(0).size()) {
            throw new IndexOutOfBoundsException("there is no such place in the message");
        }
        if (what != 0 && what != 1) {
            throw new IllegalArgumentException("what is not 0 or 1");
        }
        return what == 0 ? coded.at(0).get(place) : came.at(0).get(place);
    }

    /** Returns how many bits come otherwise than they are sent. */
    public int hurt() {
        return last(coded).unlike(last(came));
    }

    /** Returns how many errors there are. */
    public int errors() {
        return errorsIn(came);
    }

    // ---- codes

    /** Returns how far the words of a stage are apart. */
    public int distance(int stage) throws IndexOutOfBoundsException {
        Stage asked = chain.stageAt(stage);
        if (asked == null) {
            throw new IndexOutOfBoundsException("there is no such stage");
        }
        return asked.apart();
    }

    /** Returns for how many blocks of a block stage the word has so many 1s. */
    public int words(int stage, int ones) throws IndexOutOfBoundsException, IllegalArgumentException {
        Stage asked = chain.stageAt(stage);
        if (asked == null) {
            throw new IndexOutOfBoundsException("there is no such stage");
        }
        if (asked.kind() != BLOCK) {
            throw new IllegalArgumentException("the stage is no block");
        }
        if (ones < 0 || ones > MOST_ONES) {
            throw new IllegalArgumentException("ones is not 0 to 10");
        }
        return asked.wordsWith(ones);
    }

    /** Returns the length of the message, divided by how many bits are sent. */
    public double rate() {
        int many = last(coded).size();
        return many == 0 ? 0.0 : (double) coded.at(0).size() / (double) many;
    }

    // ---- what would be

    /** Returns how many errors there would be, if marked was at a place otherwise than now. */
    public int errorsWith(int place) throws IndexOutOfBoundsException {
        if (place < 0 || place >= last(coded).size()) {
            throw new IndexOutOfBoundsException("there is no such place in what is sent");
        }
        return errorsTurned(place);
    }

    /** Returns at how many places a change of the mark would bring more errors. */
    public int weak() {
        int now = errorsIn(came);
        int many = last(coded).size();
        int found = 0;
        for (int place = 0; place < many; place++) {
            if (errorsTurned(place) > now) {
                found++;
            }
        }
        return found;
    }

    /** Returns how many places in a row from one on must be turned for errors. */
    public int breaks(int from) throws IllegalArgumentException {
        if (from < 0 || from >= MOST_SENT) {
            throw new IllegalArgumentException("from is not 0 to 319");
        }
        Row arriving = last(supposed);
        arriving.copy(last(coded));
        int many = arriving.size();
        for (int place = from; place < many; place++) {
            arriving.turn(place);
            chain.decode(supposed, coded);
            if (errorsIn(supposed) > 0) {
                return place - from + 1;
            }
        }
        return 0;
    }

    /** Returns the mean of the errors with noise of p, and the seeds 1 to runs. */
    public double meanErrors(int p, int runs) throws IllegalArgumentException {
        if (p < 0 || p > 1000) {
            throw new IllegalArgumentException("p is not 0 to 1000");
        }
        if (runs < 1 || runs > 20) {
            throw new IllegalArgumentException("runs is not 1 to 20");
        }
        int sum = 0;
        for (int seed = 1; seed <= runs; seed++) {
            supposedLine.become(NOISE, p, seed, 0);
            send(supposedLine, supposed);
            chain.decode(supposed, coded);
            sum += errorsIn(supposed);
        }
        return (double) sum / (double) runs;
    }

    /** Computes a checksum of all that can be asked. */
    public long digest() {
        long d = 58076L;
        d = d * 31L + length();
        d = d * 31L + stages();
        d = d * 31L + sent();
        d = d * 31L + hurt();
        d = d * 31L + errors();
        d = withStages(d);
        d = withPlaces(d, coded.at(0), came.at(0));
        d = withPlaces(d, last(coded), last(came));
        d = d * 31L + breaks(0);
        d = d * 31L + breaks(5);
        return d * 31L + weak();
    }

    private long withStages(long start) {
        long d = start;
        for (int stage = 0; stage < chain.count(); stage++) {
            for (int what = 0; what <= 4; what++) {
                d = d * 31L + ofStage(stage, what);
            }
            d = d * 31L + distance(stage);
            if (ofStage(stage, 0) == BLOCK) {
                for (int ones = 0; ones <= MOST_ONES; ones++) {
                    d = d * 31L + words(stage, ones);
                }
            }
        }
        return d;
    }

    private long withPlaces(long start, Row asItWas, Row asItCame) {
        long d = start;
        for (int place = 0; place < asItWas.size(); place++) {
            d = d * 31L + asItWas.get(place);
            d = d * 31L + asItCame.get(place);
        }
        return d;
    }

    private int putBehind(Stage stage) {
        if (chain.count() >= MOST_STAGES) {
            throw new IllegalStateException("there are 4 stages");
        }
        if (stage.sizeOf(last(coded).size()) > MOST_SENT) {
            throw new IllegalStateException("more than 320 bits would be sent");
        }
        chain.append(stage);
        settle();
        return last(coded).size();
    }

    private void settle() {
        chain.code(coded);
        send(line, came);
        chain.decode(came, coded);
    }

    private void send(Line through, Levels levels) {
        Row arriving = last(levels);
        arriving.copy(last(coded));
        through.harm(arriving);
        arriving.turnWhere(marked);
    }

    // To change a mark turns what comes there: turned twice, it is as it was.
    private int errorsTurned(int place) {
        Row arriving = last(supposed);
        arriving.copy(last(came));
        arriving.turn(place);
        chain.decode(supposed, coded);
        return errorsIn(supposed);
    }

    private int errorsIn(Levels levels) {
        return coded.at(0).unlike(levels.at(0));
    }

    private int mendedBy(Stage stage, int number) {
        Row arrived = came.at(number + 1);
        Row codedAgain = supposed.at(number + 1);
        codedAgain.resize(arrived.size());
        stage.code(came.at(number), codedAgain);
        return codedAgain.unlike(arrived);
    }

    private Row last(Levels levels) {
        return levels.at(chain.count());
    }

    private static boolean fits(int number, int bits) {
        return number >= 0 && bits >= 0 && bits < 31 && number < 1 << bits;
    }

    private static int blocksOf(int size, int each) {
        return size <= 0 || each <= 0 ? 0 : (size + each - 1) / each;
    }

    private static int at(int[] table, int place) {
        return table == null || place < 0 || place >= table.length ? 0 : table[place];
    }

    /** A row of bits; behind its end it is read as 0s, so that a row is filled by reading on. */
    private static final class Row {
        private final int[] bits;
        private int size = 0;

        Row(int most) {
            bits = new int[Math.max(0, most)];
        }

        int size() {
            return size;
        }

        // Whoever makes a row longer writes what is new in it.
        void resize(int wanted) {
            size = Math.max(0, Math.min(wanted, bits.length));
        }

        int get(int place) {
            return place >= 0 && place < size && place < bits.length ? bits[place] : 0;
        }

        // What is decoded for places of the filling is left out here.
        void put(int place, int bit) {
            if (place >= 0 && place < size && place < bits.length) {
                bits[place] = bit;
            }
        }

        void turn(int place) {
            if (get(place) != LOST) {
                put(place, 1 - get(place));
            }
        }

        void turnWhere(Row marks) {
            for (int place = 0; place < size; place++) {
                if (marks.get(place) == 1) {
                    turn(place);
                }
            }
        }

        int ones() {
            int found = 0;
            for (int place = 0; place < size; place++) {
                if (get(place) == 1) {
                    found++;
                }
            }
            return found;
        }

        // A lost bit counts as 0 here.
        int numberAt(int place, int many) {
            int number = 0;
            for (int i = 0; i < many; i++) {
                number = number << 1 | (get(place + i) == 1 ? 1 : 0);
            }
            return number;
        }

        int knownAt(int place, int many) {
            int known = 0;
            for (int i = 0; i < many; i++) {
                known = known << 1 | (get(place + i) == LOST ? 0 : 1);
            }
            return known;
        }

        void putNumber(int place, int number, int many) {
            for (int i = 0; i < many; i++) {
                put(place + i, number >>> (many - 1 - i) & 1);
            }
        }

        void copy(Row other) {
            resize(other.size());
            for (int place = 0; place < size; place++) {
                put(place, other.get(place));
            }
        }

        int unlike(Row other) {
            int found = 0;
            for (int place = 0; place < size; place++) {
                if (get(place) != other.get(place)) {
                    found++;
                }
            }
            return found;
        }
    }

    /** The rows between the stages: what goes into stage 0 at 0, what comes out of it at 1, and so on. */
    private static final class Levels {
        private final Row[] rows = new Row[MOST_STAGES + 1];
        private final Row none = new Row(0);

        Levels() {
            for (int level = 0; level < rows.length; level++) {
                rows[level] = new Row(level == 0 ? MOST_WRITTEN : MOST_SENT);
            }
        }

        Row at(int level) {
            if (level < 0 || level >= rows.length) {
                return none;
            }
            Row row = rows[level];
            return row == null ? none : row;
        }
    }

    /** The channel. */
    private static final class Line {
        private int kind = STILL;
        private int first = 0;
        private int second = 0;
        private int third = 0;

        int kind() {
            return kind;
        }

        void become(int newKind, int a, int b, int c) {
            kind = newKind;
            first = a;
            second = b;
            third = c;
        }

        void harm(Row row) {
            if (kind == BURSTS) {
                burst(row);
            } else if (kind == NOISE || kind == LOSS) {
                scatter(row);
            }
        }

        private void burst(Row row) {
            for (int place = Math.max(0, first); place < row.size(); place++) {
                if (third > 0 && (place - first) % third < second) {
                    row.turn(place);
                }
            }
        }

        private void scatter(Row row) {
            long x = second;
            for (int place = 0; place < row.size(); place++) {
                x = (x * 1103515245L + 12345L) % 2147483648L;
                if (x / 65536L % 1000L < first) {
                    if (kind == LOSS) {
                        row.put(place, LOST);
                    } else {
                        row.turn(place);
                    }
                }
            }
        }
    }

    /** The stages, one behind the other. */
    private static final class Chain {
        private final Stage[] links = new Stage[MOST_STAGES];
        private int count = 0;

        int count() {
            return count;
        }

        // Null, if there is no such stage.
        Stage stageAt(int number) {
            return number < 0 || number >= count || number >= links.length ? null : links[number];
        }

        void append(Stage stage) {
            if (count >= 0 && count < links.length) {
                links[count] = stage;
                count++;
            }
        }

        void removeLast() {
            if (count > 0 && count <= links.length) {
                count--;
                links[count] = null;
            }
        }

        int sizeAtEnd(int size) {
            int now = size;
            for (int number = 0; number < count; number++) {
                Stage stage = stageAt(number);
                if (stage != null) {
                    now = stage.sizeOf(now);
                }
            }
            return now;
        }

        void code(Levels levels) {
            for (int number = 0; number < count; number++) {
                Stage stage = stageAt(number);
                if (stage != null) {
                    Row from = levels.at(number);
                    Row to = levels.at(number + 1);
                    to.resize(stage.sizeOf(from.size()));
                    stage.code(from, to);
                }
            }
        }

        // Each row becomes as long as the one that was coded there.
        void decode(Levels levels, Levels coded) {
            for (int number = count - 1; number >= 0; number--) {
                Stage stage = stageAt(number);
                if (stage != null) {
                    Row to = levels.at(number);
                    to.resize(coded.at(number).size());
                    stage.decode(levels.at(number + 1), to);
                }
            }
        }
    }

    /** One stage; the row that it writes has its length already. */
    private abstract static class Stage {
        abstract int kind();

        abstract int sizeOf(int size);

        abstract void code(Row from, Row to);

        abstract void decode(Row arrived, Row to);

        int apart() {
            return 1;
        }

        int damagedIn(Row arrived) {
            return 0;
        }

        int wordsWith(int ones) {
            return 0;
        }
    }

    /** Each bit several times. */
    private static final class Repeat extends Stage {
        private final int times;

        Repeat(int times) {
            this.times = times;
        }

        int kind() {
            return REPEAT;
        }

        int sizeOf(int size) {
            return size * times;
        }

        int apart() {
            return times;
        }

        void code(Row from, Row to) {
            for (int place = 0; place < from.size(); place++) {
                int bit = from.numberAt(place, 1);
                for (int i = 0; i < times; i++) {
                    to.put(place * times + i, bit);
                }
            }
        }

        void decode(Row arrived, Row to) {
            for (int place = 0; place < to.size(); place++) {
                int ones = Integer.bitCount(arrived.numberAt(place * times, times));
                int zeros = Integer.bitCount(arrived.knownAt(place * times, times)) - ones;
                to.put(place, ones > zeros ? 1 : ones < zeros ? 0 : LOST);
            }
        }
    }

    /** Each block becomes the sum of the rows that its 1s choose. */
    private static final class Block extends Stage {
        private final int taken;
        private final int made;
        private final int[] words;

        Block(int taken, int made, int first, int second, int third, int fourth) {
            this.taken = taken;
            this.made = made;
            words = new int[16];
            for (int number = 0; number < words.length; number++) {
                words[number] = chosen(number, taken - 1, first)
                    ^ chosen(number, taken - 2, second)
                    ^ chosen(number, taken - 3, third)
                    ^ chosen(number, taken - 4, fourth);
            }
        }

        // A place below 0 belongs to a row that there is not.
        private static int chosen(int number, int place, int row) {
            return place >= 0 && (number >>> place & 1) == 1 ? row : 0;
        }

        private int wordsInAll() {
            return Math.min(words.length, 1 << taken);
        }

        int kind() {
            return BLOCK;
        }

        int sizeOf(int size) {
            return blocksOf(size, taken) * made;
        }

        int apart() {
            int least = made;
            for (int number = 1; number < wordsInAll(); number++) {
                least = Math.min(least, Integer.bitCount(at(words, number)));
            }
            return least;
        }

        int wordsWith(int ones) {
            int found = 0;
            for (int number = 0; number < wordsInAll(); number++) {
                if (Integer.bitCount(at(words, number)) == ones) {
                    found++;
                }
            }
            return found;
        }

        void code(Row from, Row to) {
            int blocks = blocksOf(from.size(), taken);
            for (int block = 0; block < blocks; block++) {
                int number = from.numberAt(block * taken, taken);
                to.putNumber(block * made, at(words, number), made);
            }
        }

        void decode(Row arrived, Row to) {
            int blocks = blocksOf(to.size(), taken);
            for (int block = 0; block < blocks; block++) {
                int bits = arrived.numberAt(block * made, made);
                int known = arrived.knownAt(block * made, made);
                to.putNumber(block * taken, nearest(bits, known), taken);
            }
        }

        private int nearest(int bits, int known) {
            int best = 0;
            int least = TOO_FAR;
            for (int number = 0; number < wordsInAll(); number++) {
                int farness = Integer.bitCount((at(words, number) ^ bits) & known);
                if (farness < least) {
                    least = farness;
                    best = number;
                }
            }
            return best;
        }
    }

    /** Behind each block comes its rest. */
    private static final class Check extends Stage {
        private final int divisor;
        private final int taken;
        private final int added;

        Check(int divisor, int taken) {
            this.divisor = divisor;
            this.taken = taken;
            added = degreeOf(divisor);
        }

        private static int degreeOf(int divisor) {
            int degree = 0;
            for (int bits = 1; bits <= 8; bits++) {
                if (divisor >>> bits != 0) {
                    degree = bits;
                }
            }
            return degree;
        }

        int kind() {
            return CHECK;
        }

        int sizeOf(int size) {
            return blocksOf(size, taken) * (taken + added);
        }

        // The divisor, laid with its first bit on a 1, takes that 1 away; its first bit is not kept.
        private int restOf(Row row, int start) {
            int first = 1 << added;
            int rest = 0;
            for (int i = 0; i < taken + added; i++) {
                rest = rest << 1 | (i < taken && row.get(start + i) == 1 ? 1 : 0);
                if ((rest & first) != 0) {
                    rest ^= divisor;
                }
            }
            return rest;
        }

        void code(Row from, Row to) {
            int blocks = blocksOf(from.size(), taken);
            int each = taken + added;
            for (int block = 0; block < blocks; block++) {
                for (int i = 0; i < taken; i++) {
                    to.put(block * each + i, from.numberAt(block * taken + i, 1));
                }
                to.putNumber(block * each + taken, restOf(from, block * taken), added);
            }
        }

        void decode(Row arrived, Row to) {
            int blocks = blocksOf(to.size(), taken);
            for (int block = 0; block < blocks; block++) {
                for (int i = 0; i < taken; i++) {
                    to.put(block * taken + i, arrived.get(block * (taken + added) + i));
                }
            }
        }

        int damagedIn(Row arrived) {
            int blocks = blocksOf(arrived.size(), taken + added);
            int damaged = 0;
            for (int block = 0; block < blocks; block++) {
                if (isDamaged(arrived, block * (taken + added))) {
                    damaged++;
                }
            }
            return damaged;
        }

        private boolean isDamaged(Row arrived, int start) {
            for (int i = 0; i < taken + added; i++) {
                if (arrived.get(start + i) == LOST) {
                    return true;
                }
            }
            return restOf(arrived, start) != arrived.numberAt(start + taken, added);
        }
    }

    /** What decoding along a trail keeps: the farness of the best way to each state, and whence it came. */
    private static final class Lattice {
        private final int[] farness = new int[1 << MOST_MEMORY];
        private final int[] next = new int[1 << MOST_MEMORY];
        private final int[] whence = new int[MOST_SENT];

        void startAt(int state, int far) {
            for (int i = 0; i < farness.length; i++) {
                farness[i] = i == state ? far : TOO_FAR;
            }
        }

        int farnessOf(int state) {
            return state >= 0 && state < farness.length ? farness[state] : TOO_FAR;
        }

        void forget(int state) {
            if (state >= 0 && state < farness.length) {
                farness[state] = TOO_FAR;
            }
        }

        void keepNext(int state, int far) {
            if (state >= 0 && state < next.length) {
                next[state] = far;
            }
        }

        // Bit s of fromGreater tells whether the way to s came from the greater of the two states ahead.
        void endStep(int step, int states, int fromGreater) {
            if (step >= 0 && step < whence.length) {
                whence[step] = fromGreater;
            }
            for (int i = 0; i < states && i < farness.length && i < next.length; i++) {
                farness[i] = next[i];
            }
        }

        int cameFromGreater(int step, int state) {
            return at(whence, step) >>> state & 1;
        }
    }

    /** Each bit is coded with those just ahead of it. */
    private static final class Trail extends Stage {
        private static final int MOST_PUT_IN = 20;

        private final int memory;
        private final int masks;
        private final int[] made;
        private final Lattice lattice;

        Trail(int memory, int first, int second, int third, Lattice lattice) {
            this.memory = memory;
            this.lattice = lattice;
            masks = third == 0 ? 2 : 3;
            made = new int[2 << MOST_MEMORY];
            for (int window = 0; window < made.length; window++) {
                int two = parity(window & first) << 1 | parity(window & second);
                made[window] = third == 0 ? two : two << 1 | parity(window & third);
            }
        }

        private static int parity(int number) {
            return Integer.bitCount(number) & 1;
        }

        private int states() {
            return 1 << memory;
        }

        private int stepsFor(int size) {
            return size <= 0 ? 0 : size + memory;
        }

        int kind() {
            return TRAIL;
        }

        int sizeOf(int size) {
            return stepsFor(size) * masks;
        }

        void code(Row from, Row to) {
            int steps = stepsFor(from.size());
            int state = 0;
            for (int step = 0; step < steps; step++) {
                int window = from.numberAt(step, 1) << memory | state;
                to.putNumber(step * masks, at(made, window), masks);
                state = window >>> 1;
            }
        }

        void decode(Row arrived, Row to) {
            int steps = stepsFor(to.size());
            lattice.startAt(0, 0);
            for (int step = 0; step < steps; step++) {
                int bits = arrived.numberAt(step * masks, masks);
                int known = arrived.knownAt(step * masks, masks);
                advance(step, bits, known);
            }
            int state = 0;
            for (int step = steps - 1; step >= 0; step--) {
                to.put(step, state >>> (memory - 1));
                state = aheadOf(state) + lattice.cameFromGreater(step, state);
            }
        }

        // The smaller of the two states from which one comes to this one; the other one is next to it.
        private int aheadOf(int state) {
            return (state << 1) & (states() - 1);
        }

        private void advance(int step, int bits, int known) {
            int fromGreater = 0;
            for (int state = 0; state < states(); state++) {
                int smaller = aheadOf(state);
                int window = (state >>> (memory - 1)) << memory | smaller;
                int low = lattice.farnessOf(smaller) + farnessOf(window, bits, known);
                int high = lattice.farnessOf(smaller + 1) + farnessOf(window + 1, bits, known);
                if (high < low) {
                    fromGreater |= 1 << state;
                }
                lattice.keepNext(state, Math.min(low, high));
            }
            lattice.endStep(step, states(), fromGreater);
        }

        private int farnessOf(int window, int bits, int known) {
            return Integer.bitCount((at(made, window) ^ bits) & known);
        }

        // The farness from nothing but 0s is the number of 1s.
        int apart() {
            int known = (1 << masks) - 1;
            lattice.startAt(states() / 2, farnessOf(states(), 0, known));
            int least = TOO_FAR;
            for (int many = 2; many <= MOST_PUT_IN; many++) {
                advance(0, 0, known);
                least = Math.min(least, lattice.farnessOf(0));
                // A way that came back ends there.
                lattice.forget(0);
            }
            return least;
        }
    }

    /** Each block is written row by row and read column by column. */
    private static final class Weave extends Stage {
        private final int rows;
        private final int columns;

        Weave(int rows, int columns) {
            this.rows = rows;
            this.columns = columns;
        }

        int kind() {
            return WEAVE;
        }

        int sizeOf(int size) {
            return blocksOf(size, rows * columns) * rows * columns;
        }

        // Where the bit at a place of what is woven stands in what is not.
        private int placeBefore(int place) {
            int each = rows * columns;
            if (each <= 0 || rows <= 0) {
                return place;
            }
            int inside = place % each;
            return place - inside + inside % rows * columns + inside / rows;
        }

        void code(Row from, Row to) {
            for (int place = 0; place < to.size(); place++) {
                to.put(place, from.numberAt(placeBefore(place), 1));
            }
        }

        void decode(Row arrived, Row to) {
            for (int place = 0; place < arrived.size(); place++) {
                to.put(placeBefore(place), arrived.get(place));
            }
        }
    }
}
