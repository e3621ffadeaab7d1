import java.lang.reflect.InvocationTargetException;
import java.lang.reflect.Method;
import java.util.NoSuchElementException;

/** Calls with numbers far beside all that is asked for: none throws but the three that may, and no NONE changes anything. */
final class WildTest {
    private static final int[] FEW = {Integer.MIN_VALUE, -1, 0, 1, 5, 8, 11, 100, Integer.MAX_VALUE};
    private static final int[] MANY = {Integer.MIN_VALUE, Integer.MIN_VALUE + 1, -65536, -256, -10, -2, -1, 0, 1, 2, 3, 4, 5, 6, 7, 8, 9, 10, 11,
        12, 13, 14, 20, 21, 30, 31, 35, 36, 60, 61, 80, 99, 100, 255, 256, 65536, Integer.MAX_VALUE - 1, Integer.MAX_VALUE};
    private static final String[] TEXTS = {"", "66" + "1.....".repeat(6), "001.;551,", "-w*(l-999)/(a-a)<d", "n9s00", "n9s009.a0c0d01r0", "1234567890",
        "\0\0\0\0", "\u00ff".repeat(80), "(".repeat(80), "-".repeat(80), "9".repeat(80), ".".repeat(80), "n9".repeat(40), "001.;".repeat(16)};

    private WildTest() {
    }

    private static FullStopWells world(int kind) {
        FullStopWells x = new FullStopWells();
        if (kind == 0) {
            return x;
        }
        x = Due.made("66" + "6.....".repeat(6), kind == 1 ? "" : "001.;111,;229.;339,;445.;555,;054.;504,");
        Due.rule(x, "999*999*999*l/(a-a)-w*d*v+n");
        if (kind == 2) {
            Due.rule(x, "d-a+l/9+n");
            x.sheet(2, 8, 99, -14);
            x.keep(0);
            x.seasons(60);
            x.ands(3);
            x.heard(1, 1);
        }
        return x;
    }

    private static void call(Method m, int kind, int... of) {
        FullStopWells x = world(kind);
        Object[] args = new Object[of.length];
        StringBuilder told = new StringBuilder(m.getName());
        for (int i = 0; i < of.length; i++) {
            args[i] = of[i];
            told.append(' ').append(of[i]);
        }
        String ahead = Seen.of(x) + " " + Seen.row(x);
        try {
            Object answer = m.invoke(x, args);
            boolean isRefused = answer.equals(-1) || answer.equals(-1L) || answer.equals(false);
            if (isRefused) {
                Due.is("all behind " + told, Seen.of(x) + " " + Seen.row(x), ahead);
            }
        } catch (InvocationTargetException e) {
            boolean mayThrow = m.getExceptionTypes().length > 0 && e.getCause().getClass() == NoSuchElementException.class;
            Due.is(told + " may throw " + e.getCause(), mayThrow, true);
        } catch (IllegalAccessException e) {
            Due.is(told + " can be called", 0, 1);
        }
    }

    /** All rows of numbers for a method, one place after the other. */
    private static void callAll(Method m, int[] of, int place, int[] numbers) {
        if (place == of.length) {
            for (int kind = 0; kind < 3; kind++) {
                call(m, kind, of);
            }
            return;
        }
        for (int number : numbers) {
            of[place] = number;
            callAll(m, of, place + 1, numbers);
        }
    }

    private static void tellAll() {
        for (String text : TEXTS) {
            for (int kind = 0; kind < 3; kind++) {
                FullStopWells x = world(kind);
                Due.tell(x, text);
                x.waits();
                Due.tell(x, text);
                x.law();
                Due.tell(x, text);
                x.year();
                Due.tell(x, text);
                x.rule();
                Due.tell(x, text);
                x.wells();
                Due.tell(x, text);
                x.plain();
                Due.is("THE TEXT behind these", x.count(13), 0);
            }
        }
    }

    public static void main(String[] args) {
        for (Method m : FullStopWells.class.getMethods()) {
            if (m.getDeclaringClass() == FullStopWells.class) {
                int places = m.getParameterCount();
                callAll(m, new int[places], 0, places <= 2 ? MANY : places <= 4 ? FEW : new int[] {-1, 0, 5, 7, 10, 11, Integer.MIN_VALUE});
            }
        }
        Due.within("texts: ", WildTest::tellAll);
        Due.end("wild calls");
    }
}
