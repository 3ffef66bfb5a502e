/** Counts and prints answers that are not as due. */
final class Due {
    /** A call whose answer, or exception, is looked at. */
    interface Call {
        Object answer();
    }

    private static final int MOST_PRINTED = 40;

    private int wrong = 0;
    private String about = "";

    void about(String what) {
        about = what;
    }

    /** The answer of a call as a text, or the name of the exception that it throws. */
    static String told(Call call) {
        try {
            return String.valueOf(call.answer());
        } catch (RuntimeException e) {
            return "throws." + e.getClass().getSimpleName();
        }
    }

    void is(Object want, Call call) {
        same(String.valueOf(want), told(call));
    }

    void same(String want, String got) {
        if (!want.equals(got)) {
            wrong++;
            if (wrong > MOST_PRINTED) {
                return;
            }
            StackTraceElement[] trace = new Throwable().getStackTrace();
            String where = "";
            for (StackTraceElement element : trace) {
                if (!element.getClassName().equals("Due")) {
                    where = element.toString();
                    break;
                }
            }
            System.out.println(about + " " + where + ": answered " + got + ", due is " + want);
        }
    }

    void refusesArgument(Call call) {
        is("throws.IllegalArgumentException", call);
    }

    void refusesState(Call call) {
        is("throws.IllegalStateException", call);
    }

    void refusesPlace(Call call) {
        is("throws.IndexOutOfBoundsException", call);
    }

    void end() {
        if (wrong != 0) {
            System.out.println(wrong + " answers are not as due");
            System.exit(1);
        }
    }
}
