/** Objects of SoundingLine, made in short, and their rows as texts. */
final class Lines {
    private Lines() { }

    /** A message told as a text of its bits. */
    static SoundingLine of(String bits) {
        SoundingLine x = new SoundingLine();
        for (int start = 0; start < bits.length(); start += 16) {
            String some = bits.substring(start, Math.min(bits.length(), start + 16));
            x.write(Integer.parseInt(some, 2), some.length());
        }
        return x;
    }

    static SoundingLine of(int n, int many) {
        SoundingLine x = new SoundingLine();
        x.write(n, many);
        return x;
    }

    /** A message of 0s. */
    static SoundingLine holding(int many) {
        return of("0".repeat(many));
    }

    static String sentRow(SoundingLine x) {
        return row(x, 0);
    }

    static String comesRow(SoundingLine x) {
        return row(x, 1);
    }

    private static String row(SoundingLine x, int what) {
        StringBuilder text = new StringBuilder();
        int many = x.sent();
        for (int place = 0; place < many; place++) {
            text.append(x.bit(place, what));
        }
        return text.toString();
    }

    static String messageRow(SoundingLine x) {
        return told(x, 0);
    }

    static String decodedRow(SoundingLine x) {
        return told(x, 1);
    }

    private static String told(SoundingLine x, int what) {
        StringBuilder text = new StringBuilder();
        int many = x.length();
        for (int place = 0; place < many; place++) {
            text.append(x.told(place, what));
        }
        return text.toString();
    }
}
