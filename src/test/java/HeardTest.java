/** Promises 34 to 38: which it was. */
final class HeardTest {
    private static final String PLAIN = "33" + "2.." + ".1." + "..3";
    private static final String WELLS = "014.;215,";

    private HeardTest() {
    }

    private static void promise34() {
        FullStopWells x = Due.made(PLAIN, WELLS);
        int[][] others = {{0, 0}, {0, 10}, {1, -1}, {1, 2}, {2, -1}, {2, 100}, {3, -1}, {3, 6}, {4, -1}, {4, 6}, {5, 0}, {-1, 1}};
        for (int[] one : others) {
            Due.is("heard(" + one[0] + ", " + one[1] + ")", x.heard(one[0], one[1]), -1);
        }
        int[][] all = {{0, 1}, {0, 9}, {1, 0}, {1, 1}, {2, 0}, {2, 99}, {3, 0}, {3, 5}, {4, 0}, {4, 5}, {0, 1}, {0, 1}};
        for (int i = 0; i < all.length; i++) {
            Due.is("heard(" + all[i][0] + ", " + all[i][1] + ")", x.heard(all[i][0], all[i][1]), i + 1);
        }
        Due.is("heard, the thirteenth", x.heard(0, 1), -1);
        Due.is("count(10)", x.count(10), 12);
    }

    private static void promise35() {
        FullStopWells x = Due.made(PLAIN, WELLS);
        Due.is("forget()", x.forget(), 0);
        x.heard(0, 5);
        x.heard(1, 1);
        Due.row(x, "fits()", x.fits(), 0, 0);
        Due.is("forget()", x.forget(), 2);
        Due.row(x, "fits()", x.fits(), 3, 2);
        Due.is("forget()", x.forget(), 0);
        Due.is("count(11)", x.count(11), 0);
    }

    private static int fits(FullStopWells x, int what, int v) {
        x.forget();
        x.heard(what, v);
        return x.fits();
    }

    private static void promise36() {
        FullStopWells x = Due.made(PLAIN, WELLS);
        x.sheet(2, 2, 7, 2);
        int[][] due = {{0, 4, 3}, {0, 5, 2}, {0, 6, 0}, {1, 1, 1}, {1, 0, 2}, {2, 7, 3}, {2, 8, 2}, {2, 10, 0}, {3, 0, 1}, {3, 2, 2},
            {3, 1, 0}, {3, 5, 0}, {4, 0, 1}, {4, 1, 1}, {4, 2, 2}, {4, 3, 0}};
        for (int[] one : due) {
            Due.row(x, "fits() of " + one[0] + ", " + one[1], fits(x, one[0], one[1]), one[2], Integer.bitCount(one[2]));
        }
        fits(x, 2, 8);
        x.draws(1, 2);
        Due.row(x, "as it is now", x.fits(), 0, 0);
        x.forget();
        x.heard(1, 1);
        x.heard(0, 4);
        Due.row(x, "all that was heard", x.fits(), 1, 1);
        FullStopWells none = new FullStopWells();
        Due.row(none, "fits() of none", none.fits(), 0, 0);
        none.heard(0, 5);
        Due.plain(none, PLAIN);
        Due.wells(none, WELLS);
        Due.row(none, "a plain forgets nothing heard", none.fits(), 2, 1);
    }

    private static void promise37() {
        FullStopWells x = Due.made(PLAIN, WELLS);
        Due.row(x, "asks()", x.asks(), 5, 1);
        x.says(8, 5, 0);
        x.says(6, 5, 0);
        // 4 . in row 0, then 5 , in row 2, three times
        Due.row(x, "asks() of 1 and 3", x.asks(), 5, 3);
        x.says(4, 4, 0);
        x.says(5, 4, 1);
        Due.row(x, "asks() of 3 and 3", x.asks(), 5, 3);
        x.heard(0, 5);
        Due.row(x, "asks() of three that are like", x.asks(), 1, 3);
        x.heard(3, 1);
        Due.row(x, "asks() of none", x.asks(), -2, 3);
        FullStopWells y = Due.made("33.........", "005.;015,;105.;115,");
        Due.row(y, "whether it is meant", y.asks(), 10, 2);
        y.heard(1, 0);
        Due.row(y, "which row", y.asks(), 30, 1);
        Due.is("asks() of no wells", new FullStopWells().asks(), -2);
    }

    private static void promise38() {
        FullStopWells x = new FullStopWells();
        Due.row(x, "meant(5, 10, 0, 1, 1)", x.meant(5, 10, 0, 1, 1), 0, 1, 1);
        Due.row(x, "meant(5, 8, 2, 1, 1)", x.meant(5, 8, 2, 1, 1), 0, 4, 5);
        Due.row(x, "meant(5, 8, 2, 3, 2)", x.meant(5, 8, 2, 3, 2), 0, 4, 5);
        Due.row(x, "meant(3, 5, 5, 0, 0)", x.meant(3, 5, 5, 0, 0), 0, 3, 10);
        Due.row(x, "meant(4, 5, 5, 0, 0)", x.meant(4, 5, 5, 0, 0), 0, 2, 5);
        Due.row(x, "meant(0, 5, 5, 7, 3)", x.meant(0, 5, 5, 7, 3), 0, 0, 1);
        Due.row(x, "meant(10, 5, 0, 7, 3)", x.meant(10, 5, 0, 7, 3), 0, 1, 1);
        Due.row(x, "meant(1, 9, 1, 7, 7)", x.meant(1, 9, 1, 7, 7), 0, 531441, 531442);
        Due.row(x, "meant(9, 9, 3, 7, 7)", x.meant(9, 9, 3, 7, 7), 0, 19683, 19684);
        Due.row(x, "meant(5, 10, 10, 1, 0)", x.meant(5, 10, 10, 1, 0), -2, 19683, 19684);
        Due.row(x, "meant(0, 5, 0, 1, 1)", x.meant(0, 5, 0, 1, 1), -2, 19683, 19684);
        int[][] others = {{11, 5, 5, 1, 1}, {-1, 5, 5, 1, 1}, {5, 11, 5, 1, 1}, {5, -1, 5, 1, 1}, {5, 5, 11, 1, 1}, {5, 5, -1, 1, 1},
            {5, 5, 5, 8, 1}, {5, 5, 5, -1, -1}, {5, 5, 5, 1, 2}, {5, 5, 5, 1, -1}, {11, 10, 10, 1, 0}};
        for (int[] one : others) {
            Due.row(x, "meant of others", x.meant(one[0], one[1], one[2], one[3], one[4]), -1, 19683, 19684);
        }
    }

    public static void main(String[] args) {
        promise34();
        promise35();
        promise36();
        promise37();
        promise38();
        Due.end("promises 34 to 38");
    }
}
