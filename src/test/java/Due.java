import java.util.function.ToLongFunction;

/** Counts answers that are not as due, and tells texts to an object. */
final class Due {
    private static int asked = 0;
    private static int wrong = 0;
    private static String about = "";

    private Due() {
    }

    static void is(String call, long got, long want) {
        asked++;
        if (got != want) {
            wrong++;
            System.out.println(about + call + " answered " + got + ", due is " + want);
        }
    }

    /** Runs a test whose answers, if they are not as due, are told with what they are about. */
    static void within(String what, Runnable test) {
        about = what;
        try {
            test.run();
        } catch (RuntimeException e) {
            asked++;
            wrong++;
            System.out.println(about + "threw " + e);
        }
        about = "";
    }

    static void is(String call, String got, String want) {
        asked++;
        if (!got.equals(want)) {
            wrong++;
            System.out.println(about + call + " answered " + got + ", due is " + want);
        }
    }

    static void is(String call, boolean got, boolean want) {
        is(call, got ? 1 : 0, want ? 1 : 0);
    }

    /** An answer and the whole ROW. */
    static void row(FullStopWells x, String call, long got, long want, long... row) {
        is(call, got, want);
        is(call + ", then count(12)", x.count(12), row.length);
        for (int i = 0; i < row.length && i < x.count(12); i++) {
            is(call + ", then row(" + i + ")", x.row(i), row[i]);
        }
    }

    /** Asks, and looks at the answer and the whole ROW. */
    static void answers(FullStopWells x, ToLongFunction<FullStopWells> ask, long want, long... row) {
        row(x, "the call", ask.applyAsLong(x), want, row);
    }

    static void throwsNoSuchElement(String call, Runnable run) {
        String got = "nothing";
        try {
            run.run();
        } catch (RuntimeException e) {
            got = e.getClass().getSimpleName();
        }
        asked++;
        if (!got.equals("NoSuchElementException")) {
            wrong++;
            System.out.println(about + call + " threw " + got + ", due is NoSuchElementException");
        }
    }

    /** THE TEXT becomes this one. */
    static void tell(FullStopWells x, String text) {
        x.end(0);
        for (int i = 0; i < text.length(); i += 4) {
            int v = 0;
            for (int j = i; j < i + 4; j++) {
                v = v << 8 | (j < text.length() ? text.charAt(j) : 0);
            }
            x.sign(v);
        }
        x.end(text.length());
    }

    static int plain(FullStopWells x, String text) {
        tell(x, text);
        return x.plain();
    }

    static int wells(FullStopWells x, String text) {
        tell(x, text);
        return x.wells();
    }

    static int rule(FullStopWells x, String text) {
        tell(x, text);
        return x.rule();
    }

    static int year(FullStopWells x, String text) {
        tell(x, text);
        return x.year();
    }

    static int law(FullStopWells x, String text) {
        tell(x, text);
        return x.law();
    }

    static int waits(FullStopWells x, String text) {
        tell(x, text);
        return x.waits();
    }

    static FullStopWells made(String plain, String wells) {
        FullStopWells x = new FullStopWells();
        is("plain() of " + plain, plain(x, plain) > 0, true);
        is("wells() of " + wells, wells(x, wells) >= 0, true);
        return x;
    }

    static void end(String name) {
        System.out.println(name + ": " + asked + " answers, " + wrong + " not as due");
        if (wrong != 0) {
            System.exit(1);
        }
    }
}
