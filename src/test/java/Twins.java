/** Two objects made alike: one is asked what must change nothing, and has to go on as the other one does. */
final class Twins {
    /** How both are made. */
    interface Start {
        SoundingLine made();
    }

    /** What one of them is asked. */
    interface Ask {
        Object of(SoundingLine x);
    }

    private final Due due;
    private final Start start;
    private final String future;

    Twins(Due due, Start start) {
        this.due = due;
        this.start = start;
        future = futureOf(start.made());
    }

    void refuseArgument(Ask ask) {
        answer("throws.IllegalArgumentException", ask);
    }

    void refuseState(Ask ask) {
        answer("throws.IllegalStateException", ask);
    }

    void refusePlace(Ask ask) {
        answer("throws.IndexOutOfBoundsException", ask);
    }

    void answer(Object want, Ask ask) {
        SoundingLine x = start.made();
        due.is(want, () -> ask.of(x));
        due.same(future, futureOf(x));
    }

    /** All that can be seen of an object, now and when it is changed step by step. */
    private static String futureOf(SoundingLine x) {
        StringBuilder seen = new StringBuilder();
        note(seen, () -> x.digest());
        note(seen, () -> x.meanErrors(300, 3));
        note(seen, () -> x.mark(1));
        note(seen, () -> x.mark(319));
        note(seen, () -> x.write(1, 1));
        note(seen, () -> x.weave(1, 1));
        note(seen, () -> x.digest());
        note(seen, () -> x.clear());
        note(seen, () -> x.write(21845, 16));
        for (int i = 0; i < 6; i++) {
            note(seen, () -> x.digest());
            note(seen, () -> x.drop());
        }
        // With 320 bits sent, every mark and all that the channel does can be seen.
        note(seen, () -> x.clear());
        note(seen, () -> x.write(65535, 16));
        note(seen, () -> x.write(4321, 16));
        note(seen, () -> x.repeat(5));
        note(seen, () -> x.repeat(2));
        note(seen, () -> x.digest());
        note(seen, () -> x.channel(0, 0, 0, 0));
        note(seen, () -> x.digest());
        return seen.toString();
    }

    private static void note(StringBuilder seen, Due.Call call) {
        seen.append(Due.told(call)).append(' ');
    }
}
