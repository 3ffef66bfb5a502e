import java.util.ArrayList;
import java.util.List;

/**
 * The document once more, in its plainest form: texts of '0', '1' and '2' (lost), made anew at each
 * call, with none of the program's shortcuts. It is what the program is compared with.
 */
final class Model {
    /** What a stage is: its kind and its numbers. */
    record Kind(int kind, int[] of) { }

    private String message = "";
    private final List<Kind> kinds = new ArrayList<>();
    private int channel = 0;
    private int a = 0;
    private int b = 0;
    private int c = 0;
    private final boolean[] marks = new boolean[320];

    int write(int n, int many) {
        argument(many >= 1 && many <= 16);
        argument(n >= 0 && n < 1L << many);
        state(message.length() + many <= 32);
        String longer = message + binary(n, many);
        state(lengthOf(longer.length(), kinds) <= 320);
        message = longer;
        return message.length();
    }

    int clear() {
        int had = message.length();
        message = "";
        return had;
    }

    int repeat(int n) {
        argument(n >= 2 && n <= 5);
        return put(new Kind(0, new int[] {n}));
    }

    int block(int k, int n, int first, int second, int third, int fourth) {
        argument(k >= 1 && k <= 4);
        argument(n >= k && n <= 10);
        int[] rows = {first, second, third, fourth};
        for (int i = 0; i < k; i++) {
            argument(rows[i] >= 0 && rows[i] < 1 << n);
        }
        return put(new Kind(1, new int[] {k, n, first, second, third, fourth}));
    }

    int check(int divisor, int n) {
        argument(divisor >= 2 && divisor <= 511);
        argument(n >= 1 && n <= 32);
        return put(new Kind(2, new int[] {divisor, n}));
    }

    int trail(int memory, int first, int second, int third) {
        argument(memory >= 1 && memory <= 4);
        int most = (1 << memory + 1) - 1;
        argument(first >= 1 && first <= most && second >= 1 && second <= most);
        argument(third >= 0 && third <= most);
        return put(new Kind(3, new int[] {memory, first, second, third}));
    }

    int weave(int rows, int columns) {
        argument(rows >= 1 && rows <= 10 && columns >= 1 && columns <= 10);
        return put(new Kind(4, new int[] {rows, columns}));
    }

    int drop() {
        state(!kinds.isEmpty());
        kinds.remove(kinds.size() - 1);
        return kinds.size();
    }

    int channel(int kind, int newA, int newB, int newC) {
        argument(kind >= 0 && kind <= 3);
        if (kind == 1 || kind == 3) {
            argument(newA >= 0 && newA <= 1000 && newB >= 0 && newB <= 1000000);
        }
        if (kind == 2) {
            argument(newA >= 0 && newA <= 320 && newB >= 1 && newB <= 50 && newC >= newB && newC <= 320);
        }
        int was = channel;
        channel = kind;
        a = newA;
        b = newB;
        c = newC;
        return was;
    }

    int mark(int place) {
        place(place >= 0 && place < 320);
        marks[place] = !marks[place];
        int many = 0;
        for (boolean is : marks) {
            many += is ? 1 : 0;
        }
        return many;
    }

    int length() {
        return message.length();
    }

    int stages() {
        return kinds.size();
    }

    int ofStage(int stage, int what) {
        place(stage >= 0 && stage < kinds.size());
        argument(what >= 0 && what <= 4);
        List<String> forth = rows();
        List<String> back = decoded(comes());
        Kind kind = kinds.get(stage);
        String arrived = back.get(stage + 1);
        switch (what) {
            case 0:
                return kind.kind();
            case 1:
                return forth.get(stage).length();
            case 2:
                return forth.get(stage + 1).length();
            case 3:
                return unlike(arrived, coded(back.get(stage).replace('2', '0'), kind));
            default:
                return kind.kind() == 2 ? damaged(arrived, kind) : 0;
        }
    }

    int sent() {
        return sentRow().length();
    }

    int bit(int place, int what) {
        place(place >= 0 && place < sent());
        argument(what == 0 || what == 1);
        return (what == 0 ? sentRow() : comes()).charAt(place) - '0';
    }

    int told(int place, int what) {
        place(place >= 0 && place < message.length());
        argument(what == 0 || what == 1);
        return (what == 0 ? message : decoded(comes()).get(0)).charAt(place) - '0';
    }

    int hurt() {
        return unlike(sentRow(), comes());
    }

    int errors() {
        return errorsOf(comes());
    }

    int distance(int stage) {
        place(stage >= 0 && stage < kinds.size());
        Kind kind = kinds.get(stage);
        switch (kind.kind()) {
            case 0:
                return kind.of()[0];
            case 1:
                int least = 99;
                for (int number = 1; number < 1 << kind.of()[0]; number++) {
                    least = Math.min(least, ones(coded(binary(number, kind.of()[0]), kind)));
                }
                return least;
            case 3:
                return leastOfLoops(kind);
            default:
                return 1;
        }
    }

    int words(int stage, int ones) {
        place(stage >= 0 && stage < kinds.size());
        Kind kind = kinds.get(stage);
        argument(kind.kind() == 1);
        argument(ones >= 0 && ones <= 10);
        int many = 0;
        for (int number = 0; number < 1 << kind.of()[0]; number++) {
            many += ones(coded(binary(number, kind.of()[0]), kind)) == ones ? 1 : 0;
        }
        return many;
    }

    double rate() {
        return sent() == 0 ? 0 : (double) message.length() / sent();
    }

    int errorsWith(int place) {
        place(place >= 0 && place < sent());
        marks[place] = !marks[place];
        int would = errors();
        marks[place] = !marks[place];
        return would;
    }

    int weak() {
        int now = errors();
        int many = 0;
        for (int place = 0; place < sent(); place++) {
            many += errorsWith(place) > now ? 1 : 0;
        }
        return many;
    }

    int breaks(int from) {
        argument(from >= 0 && from < 320);
        String row = sentRow();
        for (int many = 1; from + many <= row.length(); many++) {
            StringBuilder turned = new StringBuilder(row);
            for (int place = from; place < from + many; place++) {
                turned.setCharAt(place, row.charAt(place) == '0' ? '1' : '0');
            }
            if (errorsOf(turned.toString()) > 0) {
                return many;
            }
        }
        return 0;
    }

    double meanErrors(int p, int runs) {
        argument(p >= 0 && p <= 1000);
        argument(runs >= 1 && runs <= 20);
        int[] kept = {channel, a, b, c};
        double sum = 0;
        for (int seed = 1; seed <= runs; seed++) {
            channel(1, p, seed, 0);
            sum += errors();
        }
        channel = kept[0];
        a = kept[1];
        b = kept[2];
        c = kept[3];
        return sum / runs;
    }

    long digest() {
        List<Integer> all = new ArrayList<>(List.of(length(), stages(), sent(), hurt(), errors()));
        for (int stage = 0; stage < stages(); stage++) {
            for (int what = 0; what < 5; what++) {
                all.add(ofStage(stage, what));
            }
            all.add(distance(stage));
            for (int ones = 0; ones < 11 && kinds.get(stage).kind() == 1; ones++) {
                all.add(words(stage, ones));
            }
        }
        for (int place = 0; place < length(); place++) {
            all.add(told(place, 0));
            all.add(told(place, 1));
        }
        String comes = comes();
        for (int place = 0; place < sent(); place++) {
            all.add(bit(place, 0));
            all.add(comes.charAt(place) - '0');
        }
        all.add(breaks(0));
        all.add(breaks(5));
        all.add(weak());
        long d = 58076;
        for (int x : all) {
            d = d * 31 + x;
        }
        return d;
    }

    private static void argument(boolean holds) {
        if (!holds) {
            throw new IllegalArgumentException();
        }
    }

    private static void state(boolean holds) {
        if (!holds) {
            throw new IllegalStateException();
        }
    }

    private static void place(boolean holds) {
        if (!holds) {
            throw new IndexOutOfBoundsException();
        }
    }

    private int put(Kind kind) {
        state(kinds.size() < 4);
        List<Kind> more = new ArrayList<>(kinds);
        more.add(kind);
        int length = lengthOf(message.length(), more);
        state(length <= 320);
        kinds.add(kind);
        return length;
    }

    private static int lengthOf(int length, List<Kind> kinds) {
        String row = "0".repeat(length);
        for (Kind kind : kinds) {
            row = coded(row, kind);
        }
        return row.length();
    }

    private List<String> rows() {
        List<String> rows = new ArrayList<>();
        rows.add(message);
        for (Kind kind : kinds) {
            rows.add(coded(rows.get(rows.size() - 1), kind));
        }
        return rows;
    }

    private String sentRow() {
        List<String> rows = rows();
        return rows.get(rows.size() - 1);
    }

    private String comes() {
        StringBuilder row = new StringBuilder(sentRow());
        long x = b;
        for (int place = 0; place < row.length(); place++) {
            x = (x * 1103515245L + 12345L) % 2147483648L;
            boolean hit = x / 65536 % 1000 < a;
            if (channel == 2) {
                hit = false;
                for (int start = a; start <= place; start += c) {
                    hit |= place < start + b;
                }
            }
            char bit = row.charAt(place);
            if (channel == 3 && hit) {
                row.setCharAt(place, '2');
            } else if (channel != 0 && hit) {
                row.setCharAt(place, turned(bit));
            }
        }
        for (int place = 0; place < row.length(); place++) {
            if (marks[place]) {
                row.setCharAt(place, turned(row.charAt(place)));
            }
        }
        return row.toString();
    }

    private static char turned(char bit) {
        return bit == '0' ? '1' : bit == '1' ? '0' : '2';
    }

    /** The decoded rows: at the end what comes, ahead of it what the last stage decodes, and so on. */
    private List<String> decoded(String comes) {
        List<String> forth = rows();
        List<String> back = new ArrayList<>();
        back.add(comes);
        for (int stage = kinds.size() - 1; stage >= 0; stage--) {
            back.add(0, decoded(back.get(0), kinds.get(stage), forth.get(stage).length()));
        }
        return back;
    }

    private int errorsOf(String comes) {
        return unlike(message, decoded(comes).get(0));
    }

    private static int unlike(String one, String other) {
        int many = Math.abs(one.length() - other.length());
        for (int i = 0; i < Math.min(one.length(), other.length()); i++) {
            many += one.charAt(i) == other.charAt(i) ? 0 : 1;
        }
        return many;
    }

    private static int ones(String row) {
        return row.replace("0", "").length();
    }

    private static String binary(int number, int many) {
        String text = "";
        for (int i = 0; i < many; i++) {
            text = (number >> i & 1) + text;
        }
        return text;
    }

    private static String filled(String row, int each) {
        return row + "0".repeat((each - row.length() % each) % each);
    }

    private static String either(String one, String other) {
        String sum = "";
        for (int i = 0; i < one.length(); i++) {
            sum += one.charAt(i) == other.charAt(i) ? '0' : '1';
        }
        return sum;
    }

    static String coded(String row, Kind kind) {
        int[] of = kind.of();
        switch (kind.kind()) {
            case 0: {
                String made = "";
                for (char bit : row.toCharArray()) {
                    made += String.valueOf(bit).repeat(of[0]);
                }
                return made;
            }
            case 1: {
                String made = "";
                String full = filled(row, of[0]);
                for (int start = 0; start < full.length(); start += of[0]) {
                    String word = "0".repeat(of[1]);
                    for (int i = 0; i < of[0]; i++) {
                        if (full.charAt(start + i) == '1') {
                            word = either(word, binary(of[2 + i], of[1]));
                        }
                    }
                    made += word;
                }
                return made;
            }
            case 2: {
                String made = "";
                String full = filled(row, of[1]);
                for (int start = 0; start < full.length(); start += of[1]) {
                    String block = full.substring(start, start + of[1]);
                    made += block + rest(block, of[0]);
                }
                return made;
            }
            case 3:
                return trailed(row, of);
            default:
                return woven(row, of);
        }
    }

    private static String rest(String block, int divisor) {
        String by = Integer.toBinaryString(divisor);
        int r = by.length() - 1;
        String now = block + "0".repeat(r);
        for (int i = 0; i < block.length(); i++) {
            if (now.charAt(i) == '1') {
                now = now.substring(0, i) + either(now.substring(i, i + r + 1), by) + now.substring(i + r + 1);
            }
        }
        return now.substring(block.length());
    }

    private static String trailed(String row, int[] of) {
        if (row.isEmpty()) {
            return row;
        }
        String made = "";
        int s = 0;
        for (char bit : (row + "0".repeat(of[0])).toCharArray()) {
            made += step(of, s, bit - '0');
            s = next(of, s, bit - '0');
        }
        return made;
    }

    /** What comes along the trail, when a bit is put in behind s. */
    private static String step(int[] of, int s, int bit) {
        int w = bit * (1 << of[0]) + s;
        String made = "";
        for (int i = 1; i < (of[3] == 0 ? 3 : 4); i++) {
            made += Integer.bitCount(w & of[i]) % 2;
        }
        return made;
    }

    private static int next(int[] of, int s, int bit) {
        return (bit * (1 << of[0]) + s) / 2;
    }

    private static String woven(String row, int[] of) {
        int each = of[0] * of[1];
        String full = filled(row, each);
        String made = "";
        for (int start = 0; start < full.length(); start += each) {
            for (int column = 0; column < of[1]; column++) {
                for (int line = 0; line < of[0]; line++) {
                    made += full.charAt(start + line * of[1] + column);
                }
            }
        }
        return made;
    }

    private static int farness(String arrived, String word) {
        int far = 0;
        for (int i = 0; i < word.length(); i++) {
            far += arrived.charAt(i) != '2' && arrived.charAt(i) != word.charAt(i) ? 1 : 0;
        }
        return far;
    }

    static String decoded(String arrived, Kind kind, int length) {
        int[] of = kind.of();
        switch (kind.kind()) {
            case 0: {
                String back = "";
                for (int start = 0; start < arrived.length(); start += of[0]) {
                    String each = arrived.substring(start, start + of[0]);
                    int ones = each.replace("0", "").replace("2", "").length();
                    int zeros = each.replace("1", "").replace("2", "").length();
                    back += ones > zeros ? "1" : zeros > ones ? "0" : "2";
                }
                return back;
            }
            case 1: {
                String back = "";
                for (int start = 0; start < arrived.length(); start += of[1]) {
                    String each = arrived.substring(start, start + of[1]);
                    String best = null;
                    for (int number = 0; number < 1 << of[0]; number++) {
                        String block = binary(number, of[0]);
                        if (best == null || farness(each, coded(block, kind)) < farness(each, coded(best, kind))) {
                            best = block;
                        }
                    }
                    back += best;
                }
                return back.substring(0, length);
            }
            case 2: {
                String back = "";
                int r = Integer.toBinaryString(of[0]).length() - 1;
                for (int start = 0; start < arrived.length(); start += of[1] + r) {
                    back += arrived.substring(start, start + of[1]);
                }
                return back.substring(0, length);
            }
            case 3:
                return length == 0 ? "" : length <= 6 ? tried(arrived, of, length) : found(arrived, of, length);
            default: {
                char[] back = new char[arrived.length()];
                int each = of[0] * of[1];
                int place = 0;
                for (int start = 0; start < arrived.length(); start += each) {
                    for (int column = 0; column < of[1]; column++) {
                        for (int line = 0; line < of[0]; line++) {
                            back[start + line * of[1] + column] = arrived.charAt(place++);
                        }
                    }
                }
                return new String(back).substring(0, length);
            }
        }
    }

    /** Every row there is; of equally far ones that whose states, told from the end, are the smaller. */
    private static String tried(String arrived, int[] of, int length) {
        String best = null;
        String bestKey = null;
        for (int number = 0; number < 1 << length; number++) {
            String row = binary(number, length);
            String key = String.format("%04d", farness(arrived, trailed(row, of)));
            String states = "";
            int s = 0;
            for (char bit : (row + "0".repeat(of[0])).toCharArray()) {
                states = (char) ('a' + s) + states;
                s = next(of, s, bit - '0');
            }
            if (best == null || (key + states).compareTo(bestKey) < 0) {
                best = row;
                bestKey = key + states;
            }
        }
        return best;
    }

    /** The best way to each state, kept as the text of its bits. */
    private static String found(String arrived, int[] of, int length) {
        int states = 1 << of[0];
        String[] ways = new String[states];
        int[] far = new int[states];
        ways[0] = "";
        int each = of[3] == 0 ? 2 : 3;
        for (int i = 0; i < length + of[0]; i++) {
            String here = arrived.substring(i * each, i * each + each);
            String[] newWays = new String[states];
            int[] newFar = new int[states];
            for (int s = 0; s < states; s++) {
                for (int bit = 0; bit < (i < length ? 2 : 1) && ways[s] != null; bit++) {
                    int to = next(of, s, bit);
                    int would = far[s] + farness(here, step(of, s, bit));
                    if (newWays[to] == null || would < newFar[to]) {
                        newWays[to] = ways[s] + bit;
                        newFar[to] = would;
                    }
                }
            }
            ways = newWays;
            far = newFar;
        }
        return ways[0].substring(0, length);
    }

    private static int damaged(String arrived, Kind kind) {
        int each = kind.of()[1] + Integer.toBinaryString(kind.of()[0]).length() - 1;
        int many = 0;
        for (int start = 0; start < arrived.length(); start += each) {
            String all = arrived.substring(start, start + each);
            boolean lost = all.indexOf('2') >= 0;
            many += lost || !all.equals(coded(all.substring(0, kind.of()[1]), kind)) ? 1 : 0;
        }
        return many;
    }

    /** All ways of up to 20 bits that leave 0 and come back, by how many bits were put in. */
    private static int leastOfLoops(Kind kind) {
        int[] of = kind.of();
        int states = 1 << of[0];
        int[] least = new int[states];
        java.util.Arrays.fill(least, 9999);
        least[next(of, 0, 1)] = ones(step(of, 0, 1));
        int best = 9999;
        for (int put = 2; put <= 20; put++) {
            int[] newLeast = new int[states];
            java.util.Arrays.fill(newLeast, 9999);
            for (int s = 1; s < states; s++) {
                for (int bit = 0; bit < 2; bit++) {
                    int to = next(of, s, bit);
                    newLeast[to] = Math.min(newLeast[to], least[s] + ones(step(of, s, bit)));
                }
            }
            best = Math.min(best, newLeast[0]);
            least = newLeast;
        }
        return best;
    }
}
