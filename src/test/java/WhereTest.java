/** Promises 24 to 28: what to say where. */
final class WhereTest {
    private static final String PLAIN = "33" + "2.." + ".1." + "..3";
    private static final String WELLS = "014.;215,";

    private WhereTest() {
    }

    private static void promise24() {
        FullStopWells x = Due.made(PLAIN, WELLS);
        Due.row(x, "covers(0)", x.covers(0), 3, 0, 4, 8);
        Due.row(x, "covers(1)", x.covers(1), 2, 0, 5);
        Due.row(x, "covers(2)", x.covers(2), 1, 2);
        Due.row(x, "covers(3)", x.covers(3), 1, 1);
        Due.row(x, "covers(4)", x.covers(4), 1, 0);
        Due.row(x, "covers(10)", x.covers(10), 1, 0);
        Due.row(x, "covers(11)", x.covers(11), -1, 0);
        Due.row(x, "covers(-1)", x.covers(-1), -1, 0);
        FullStopWells none = new FullStopWells();
        none.seasons(1);
        Due.row(none, "covers(0) of none", none.covers(0), 0);
        FullStopWells wide = Due.made("66" + "1....1" + "......" + "..1..." + "...1.." + "......" + "1....1", "");
        Due.row(wide, "covers(0) of six", wide.covers(0), 6, 0, 5, 14, 21, 30, 35);
        Due.row(wide, "covers(1) of six", wide.covers(1), 5, 0, 4, 15, 24, 29);
        Due.row(wide, "covers(4)", wide.covers(4), 2, 1, 26);
        Due.row(wide, "covers(10)", wide.covers(10), 1, 0);
    }

    private static void promise25() {
        FullStopWells x = Due.made(PLAIN, WELLS);
        Due.row(x, "best(1, 2)", x.best(1, 2), 8, 0);
        // 2 a season are too few for the third wherever it is: the first field
        Due.row(x, "best(8, 1)", x.best(8, 1), 0, 1);
        int[][] others = {{0, 1}, {10, 1}, {1, 0}, {1, 31}, {-1, -1}};
        for (int[] one : others) {
            Due.row(x, "best of others", x.best(one[0], one[1]), -1, 1);
        }
        Due.is("nothing is said", x.count(3), 2);
        FullStopWells full = Due.made("33" + "1........", "001.;011.;021.;101.;111.;121.;201.;211.");
        Due.is("best of 8 wells", full.best(1, 1), -2);
        Due.is("NONE ahead of it", full.best(0, 1), -1);
        full.undo();
        FullStopWells empty = new FullStopWells();
        Due.row(empty, "best of nothing", empty.best(9, 30), 0, 0);
    }

    private static void promise26() {
        FullStopWells x = Due.made(PLAIN, WELLS);
        Due.row(x, "longest(8, 2, 2)", x.longest(8, 2, 2), 7, 0);
        Due.row(x, "longest(8, 2, 1)", x.longest(8, 2, 1), 7, 0);
        Due.row(x, "longest(0, 0, 30)", x.longest(0, 0, 30), 8, 0);
        Due.row(x, "longest(0, 1, 30): it draws elsewhere", x.longest(0, 1, 30), 9, 0);
        Due.row(x, "longest(5, 2, 2)", x.longest(5, 2, 2), -2, 0);
        Due.row(x, "longest(1, 0, 1)", x.longest(1, 0, 1), -3, 0);
        int[][] others = {{9, 0, 1}, {-1, 0, 1}, {0, 3, 1}, {0, -1, 1}, {0, 0, 0}, {0, 0, 31}, {1, 0, 31}};
        for (int[] one : others) {
            Due.row(x, "longest of others", x.longest(one[0], one[1], one[2]), -1, 0);
        }
        Due.is("nothing is said", x.count(3), 2);
        FullStopWells full = Due.made("33" + "1........", "001.;011.;021.;101.;111.;121.;201.;211.");
        Due.is("longest of 8 wells", full.longest(8, 0, 1), -3);
        Due.is("longest on one of 8", full.longest(0, 0, 1), -3);
        Due.is("NONE ahead of it", full.longest(8, 1, 1), -1);
    }

    private static void promise27() {
        FullStopWells x = Due.made(PLAIN, WELLS);
        Due.row(x, "dearest(2)", x.dearest(2), 0, 6, 2);
        Due.row(x, "dearest(30)", x.dearest(30), 0, 90, 30);
        Due.row(x, "dearest(0)", x.dearest(0), -1, 90, 30);
        Due.row(x, "dearest(31)", x.dearest(31), -1, 90, 30);
        Due.is("nothing is gone", x.count(3), 2);
        x.sheet(2, 2, 99, 0);
        Due.row(x, "dearest(5): of equal ones the first", x.dearest(5), 0, 0, 0);
        FullStopWells none = new FullStopWells();
        Due.is("dearest of none", none.dearest(1), -2);
        Due.is("NONE ahead of it", none.dearest(0), -1);
        // the second is the dearest: the first is dry
        FullStopWells y = Due.made("33" + "1.." + "..." + "..1", "019.;201.");
        Due.rule(y, "(w<9)*d");
        Due.row(y, "dearest(3)", y.dearest(3), 1, 6, 0);
    }

    private static void promise28() {
        FullStopWells x = Due.made(PLAIN, WELLS);
        Due.row(x, "bears(0, 2)", x.bears(0, 2), 2, 2);
        // fewer are parched when the near one is dry
        Due.row(x, "bears(1, 2)", x.bears(1, 2), 9, 0);
        int[][] others = {{2, 1}, {-1, 1}, {0, 0}, {0, 31}};
        for (int[] one : others) {
            Due.row(x, "bears of others", x.bears(one[0], one[1]), -1, 0);
        }
        Due.is("none is thrown", x.count(8), 0);
        x.ands(1);
        x.ands(1);
        Due.row(x, "bears(1, 2) of two", x.bears(1, 2), 7, 0);
        for (int i = 0; i < 7; i++) {
            x.ands(1);
        }
        Due.row(x, "bears(1, 1) of nine", x.bears(1, 1), 0, 0);
    }

    public static void main(String[] args) {
        promise24();
        promise25();
        promise26();
        promise27();
        promise28();
        Due.end("promises 24 to 28");
    }
}
