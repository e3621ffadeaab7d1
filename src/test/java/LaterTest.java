/** Promises 18 to 23: later. */
final class LaterTest {
    private static final String PLAIN = "33" + "2.." + ".1." + "..3";
    private static final String WELLS = "014.;215,";

    private LaterTest() {
    }

    private static FullStopWells made() {
        return Due.made(PLAIN, WELLS);
    }

    /** A question changes nothing but the ROW. */
    private static void isAsAtFirst(FullStopWells x) {
        Due.is("count(3)", x.count(3), 2);
        Due.is("count(4)", x.count(4), 0);
        Due.is("count(5)", x.count(5), 0);
        Due.is("count(6)", x.count(6), 0);
        Due.is("count(8)", x.count(8), 0);
        Due.is("count(11)", x.count(11), 0);
    }

    private static void promise18() {
        FullStopWells x = made();
        Due.row(x, "later(0, 0)", x.later(0, 0), 0, 0, 0);
        Due.row(x, "later(0, 4)", x.later(0, 4), 12, 12, 4);
        Due.row(x, "later(1, 4)", x.later(1, 4), 0, 12, 4);
        Due.row(x, "later(0, 99)", x.later(0, 99), 96, 96, 99);
        int[][] others = {{2, 1}, {-1, 1}, {0, 100}, {0, -1}};
        for (int[] one : others) {
            Due.row(x, "later of others", x.later(one[0], one[1]), -1, 96, 99);
        }
        isAsAtFirst(x);
    }

    private static void promise19() {
        FullStopWells x = made();
        Due.row(x, "parched(2)", x.parched(2), 1, 99);
        Due.row(x, "parched(0)", x.parched(0), -2, 99);
        Due.row(x, "parched(3)", x.parched(3), -1, 99);
        Due.row(x, "parched(-1)", x.parched(-1), -1, 99);
        isAsAtFirst(x);
        // 7 at first, 3 the first time: the third village lacks from the third season on
        x.sheet(2, 2, 0, 7);
        Due.rule(x, "0");
        Due.row(x, "parched(2)", x.parched(2), 2, 98);
        Due.row(x, "parched(1)", x.parched(1), 2, 98);
        // each fourth season alone there is water: 9, of which 3 are left to the next; 1 to 3, 6, 7, 10, 11 .. lack
        Due.rule(x, "(n=3)*9*m");
        x.sheet(3, 0, 0, 0);
        Due.row(x, "parched(0)", x.parched(0), 1, 51);
        Due.row(new FullStopWells(), "parched(0) of none", new FullStopWells().parched(0), -1);
    }

    private static void promise20() {
        FullStopWells x = made();
        Due.row(x, "drinks(0, 1)", x.drinks(0, 1), 2, 0);
        Due.row(x, "drinks(2, 1)", x.drinks(2, 1), 1, 1);
        Due.row(x, "drinks(2, 99)", x.drinks(2, 99), 1, 1);
        int[][] others = {{3, 1}, {-1, 1}, {0, 100}, {0, 0}};
        for (int[] one : others) {
            Due.row(x, "drinks of others", x.drinks(one[0], one[1]), -1, 1);
        }
        isAsAtFirst(x);
        x.sheet(2, 2, 0, 4);
        Due.rule(x, "0");
        Due.row(x, "drinks(1, 1)", x.drinks(1, 1), 1, 1);
        Due.row(x, "drinks(2, 1)", x.drinks(2, 1), 1, 1);
        Due.row(x, "drinks(2, 2): no water", x.drinks(2, 2), 0, -1);
    }

    private static void promise21() {
        FullStopWells x = made();
        Due.row(x, "rises(0, 0)", x.rises(0, 0), 0, 0);
        Due.row(x, "rises(0, 4)", x.rises(0, 4), 2, 6);
        Due.row(x, "rises(0, 96)", x.rises(0, 96), 32, 96);
        Due.row(x, "rises(0, 97)", x.rises(0, 97), -2, 96);
        Due.row(x, "rises(1, 1)", x.rises(1, 1), -2, 96);
        int[][] others = {{2, 0}, {-1, 0}, {0, 100}, {0, -1}};
        for (int[] one : others) {
            Due.row(x, "rises of others", x.rises(one[0], one[1]), -1, 96);
        }
        isAsAtFirst(x);
        // one a season: 99 behind 99 SEASONS is told yet
        FullStopWells y = Due.made("33.........", "001.");
        Due.rule(y, "1");
        Due.row(y, "rises(0, 99)", y.rises(0, 99), 99, 99);
        y.sheet(2, 1, 5, 0);
        Due.row(y, "rises(0, 3) now", y.rises(0, 3), 0, 5);
    }

    private static void promise22() {
        FullStopWells x = made();
        Due.row(x, "richest(0)", x.richest(0), 0, 0, 2);
        Due.row(x, "richest(2)", x.richest(2), 0, 6, 1);
        Due.row(x, "richest(99)", x.richest(99), 0, 96, 1);
        Due.row(x, "richest(100)", x.richest(100), -1, 96, 1);
        Due.row(x, "richest(-1)", x.richest(-1), -1, 96, 1);
        isAsAtFirst(x);
        x.sheet(2, 2, 30, 60);
        Due.row(x, "richest(1)", x.richest(1), 1, 88, 0);
        FullStopWells none = new FullStopWells();
        Due.is("richest of none", none.richest(5), -2);
        Due.is("NONE ahead of it", none.richest(100), -1);
    }

    private static void promise23() {
        FullStopWells x = made();
        Due.row(x, "balance()", x.balance(), 1001, 7, 6);
        x.ands(0);
        x.ands(0);
        Due.row(x, "balance()", x.balance(), 997, 3, 6);
        Due.row(new FullStopWells(), "new", new FullStopWells().balance(), 1000);
        FullStopWells none = new FullStopWells();
        Due.row(none, "balance() of nothing", none.balance(), 1000, 0, 0);
        Due.plain(none, "33" + "666" + "666" + "...");
        Due.row(none, "balance() without wells", none.balance(), 964, 0, 36);
    }

    public static void main(String[] args) {
        promise18();
        promise19();
        promise20();
        promise21();
        promise22();
        promise23();
        Due.end("promises 18 to 23");
    }
}
