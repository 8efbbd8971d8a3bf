import java.util.function.Supplier;

/** Counts and prints the answers of a test that are not the ones that are due. */
final class Check {
    private static int wrong = 0;
    private static int asked = 0;
    private static String sentence = "";

    private Check() {
    }

    /** The test of one sentence of the document: it must ask something, and throw nothing of its own. */
    static void sentence(String text, Runnable test) {
        int before = asked;
        sentence = "\"" + text + "\": ";
        try {
            test.run();
        } catch (RuntimeException e) {
            tell("the test", "throwing " + e, "nothing thrown");
        }
        if (asked == before) {
            tell("the test", "nothing asked", "something asked");
        }
        sentence = "";
    }

    static void is(String what, long got, long due) {
        asked++;
        if (got != due) {
            tell(what, Long.toString(got), Long.toString(due));
        }
    }

    static void is(String what, boolean got, boolean due) {
        is(what, got ? 1L : 0L, due ? 1L : 0L);
    }

    /** Floats are compared by their bits, so that -0f is no 0f. */
    static void isFloat(String what, float got, float due) {
        asked++;
        if (Float.floatToIntBits(got) != Float.floatToIntBits(due)) {
            tell(what, Float.toString(got), Float.toString(due));
        }
    }

    static void isText(String what, String got, String due) {
        asked++;
        if (!got.equals(due)) {
            tell(what, got, due);
        }
    }

    /** What a call answers, floats with their bits, or what it throws, as a text. */
    static String answer(Supplier<Object> call) {
        try {
            Object got = call.get();
            return got instanceof Float ? got + " (" + Integer.toHexString(Float.floatToIntBits((Float) got)) + ")" : got.toString();
        } catch (RuntimeException e) {
            return "throws." + e.getClass().getSimpleName();
        }
    }

    static void throwing(String what, Class<?> due, Runnable call) {
        asked++;
        String got = "nothing";
        try {
            call.run();
        } catch (RuntimeException e) {
            got = e.getClass().getName();
        }
        if (!got.equals(due.getName())) {
            tell(what, "throwing " + got, "throwing " + due.getName());
        }
    }

    /** Writes a text, each character of which must be taken. */
    static void write(TrackGrid grid, String text) {
        for (int i = 0; i < text.length(); i++) {
            is("write of " + text, grid.write(text.charAt(i)), true);
        }
    }

    static void template(TrackGrid grid, int axis, String text, int tracks) {
        write(grid, text);
        try {
            is("template " + text, grid.template(axis), tracks);
        } catch (IllegalArgumentException e) {
            tell("template " + text, "refused at " + grid.place(), Integer.toString(tracks));
        }
    }

    static void refused(TrackGrid grid, int axis, String text, int place) {
        write(grid, text);
        throwing("template " + text, IllegalArgumentException.class, () -> grid.template(axis));
        is("place of " + text, grid.place(), place);
    }

    static void sizes(TrackGrid grid, int axis, float... due) {
        is("tracks", grid.tracks(axis), due.length);
        for (int t = 0; t < due.length && t < grid.tracks(axis); t++) {
            isFloat("size(" + axis + ", " + t + ")", grid.size(axis, t), due[t]);
        }
    }

    static void lines(TrackGrid grid, int item, int column, int row) {
        is("line(" + item + ", 0)", grid.line(item, 0), column);
        is("line(" + item + ", 1)", grid.line(item, 1), row);
    }

    static void finish() {
        System.out.println(asked + " answers looked at, " + wrong + " not as due");
        if (wrong != 0 || asked == 0) {
            System.exit(1);
        }
    }

    private static void tell(String what, String got, String due) {
        wrong++;
        StackTraceElement[] stack = new Throwable().getStackTrace();
        int line = 0;
        for (StackTraceElement frame : stack) {
            if (frame.getClassName().endsWith("Test")) {
                line = frame.getLineNumber();
                break;
            }
        }
        System.out.println("line " + line + ": " + sentence + what + " answered " + got + ", due is " + due);
    }
}
