import java.util.StringJoiner;

/** What can be seen of an object, as one text: two that are alike look alike. */
final class Seen {
    private static final int TEXT = 13;
    private static final int ROW = 12;

    private Seen() {
    }

    /** All but the ROW and THE TEXT. */
    static String of(FullStopWells x) {
        StringJoiner s = new StringJoiner(" ");
        for (int what = 0; what < ROW; what++) {
            s.add("" + x.count(what));
        }
        for (int i = 0; i < x.count(3); i++) {
            s.add("/ well");
            for (int what = 0; what <= 7; what++) {
                s.add("" + x.well(i, what));
            }
        }
        for (int i = 0; i < x.count(2); i++) {
            s.add("/ village");
            for (int what = 0; what <= 3; what++) {
                s.add("" + x.village(i, what));
            }
        }
        return s.toString();
    }

    static String row(FullStopWells x) {
        StringJoiner s = new StringJoiner(" ");
        for (int i = 0; i < x.count(ROW); i++) {
            s.add("" + x.row(i));
        }
        return s.toString();
    }

    static int signs(FullStopWells x) {
        return x.count(TEXT);
    }
}
