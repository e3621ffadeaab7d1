/** Promises 29 to 33: routes, squares. */
final class RouteTest {
    private static final String PLAIN = "33" + "2.." + ".1." + "..3";
    private static final String WELLS = "014.;215,";

    private RouteTest() {
    }

    private static void promise29() {
        FullStopWells x = Due.made(PLAIN, WELLS);
        Due.row(x, "twins()", x.twins(), 2, 0, 1);
        x.says(5, 1, 1);
        Due.row(x, "twins() of like ones", x.twins(), 2, 0, 1);
        x.says(8, 1, 1);
        Due.row(x, "twins()", x.twins(), 1, 1, 3);
        x.says(2, 1, 1);
        Due.row(x, "twins()", x.twins(), 1, 0, 4);
        FullStopWells y = new FullStopWells();
        y.square();
        Due.row(y, "twins() of none", y.twins(), -2, 0);
        y.says(8, 1, 1);
        Due.row(y, "twins() of one", y.twins(), -2, 0);
    }

    private static void promise30() {
        FullStopWells x = Due.made("66" + ".".repeat(36), "005.;025.;045.;205.;225.;245.;555.");
        Due.row(x, "route(0, 5, 2)", x.route(0, 5, 2), 4, 0, 1, 2, 5);
        Due.row(x, "route(5, 0, 2)", x.route(5, 0, 2), 4, 5, 2, 1, 0);
        Due.row(x, "route(0, 5, 4)", x.route(0, 5, 4), 3, 0, 1, 5);
        Due.row(x, "route(0, 5, 6)", x.route(0, 5, 6), 2, 0, 5);
        Due.row(x, "route(3, 3, 0)", x.route(3, 3, 0), 1, 3);
        Due.row(x, "route(0, 6, 3)", x.route(0, 6, 3), -2, 3);
        Due.row(x, "route(0, 1, 1)", x.route(0, 1, 1), -2, 3);
        Due.row(x, "route(0, 6, 4)", x.route(0, 6, 4), 4, 0, 1, 5, 6);
        int[][] others = {{7, 0, 1}, {0, 7, 1}, {-1, 0, 1}, {0, -1, 1}, {0, 1, 11}, {0, 1, -1}};
        for (int[] one : others) {
            Due.row(x, "route of others", x.route(one[0], one[1], one[2]), -1, 0, 1, 5, 6);
        }
        Due.is("route of none", new FullStopWells().route(0, 0, 0), -1);
        FullStopWells row = Due.made("36" + ".".repeat(18), "001.;011.;021.;031.;041.;051.;151.;251.");
        Due.row(row, "route(0, 7, 1)", row.route(0, 7, 1), 8, 0, 1, 2, 3, 4, 5, 6, 7);
    }

    private static void promise31() {
        FullStopWells x = Due.made(PLAIN, WELLS);
        Due.row(x, "reach()", x.reach(), 2, 0, 1, 2);
        x.says(6, 1, 1);
        Due.row(x, "reach()", x.reach(), 2, 0, 2, 3);
        x.says(0, 1, 1);
        Due.row(x, "reach() of like ones", x.reach(), 2, 0, 2, 3);
        x.says(3, 1, 1);
        Due.row(x, "reach()", x.reach(), 1, 0, 2, 3);
        FullStopWells y = Due.made("66" + ".".repeat(36), "001.;551.");
        Due.row(y, "reach() of corners", y.reach(), 10, 0, 1, 10);
        Due.plain(y, "33.........");
        y.says(0, 1, 1);
        Due.row(y, "reach() of one", y.reach(), -2, 0, 1, 10);
        Due.is("reach() of none", new FullStopWells().reach(), -2);
    }

    private static void promise32() {
        FullStopWells x = new FullStopWells();
        Due.row(x, "square() of 3 by 3", x.square(), 3, 0);
        x.says(4, 1, 1);
        Due.row(x, "square() round one", x.square(), 1, 0);
        FullStopWells y = Due.made("46" + ".".repeat(24), "");
        Due.row(y, "square() of 4 by 6", y.square(), 4, 0);
        y.says(2, 1, 1);
        Due.row(y, "square() of 4 by 6", y.square(), 3, 3);
        y.says(10, 1, 1);
        Due.row(y, "square() of 4 by 6", y.square(), 3, 6);
        y.says(14, 1, 1);
        Due.row(y, "square() of 4 by 6", y.square(), 2, 0);
        FullStopWells z = Due.made("33.........", "001.;011.;021.;101.;111.;121.;201.;211.");
        Due.row(z, "square() of the last field", z.square(), 1, 8);
    }

    private static void promise33() {
        FullStopWells x = Due.made(PLAIN, WELLS);
        Due.row(x, "dry(0)", x.dry(0), 0b101111101, 7, 3);
        Due.row(x, "dry(1)", x.dry(1), 0b000101000, 2, 0);
        Due.row(x, "dry(2)", x.dry(2), 0, 0, 0);
        Due.row(x, "dry(11)", x.dry(11), -1, 0, 0);
        Due.row(x, "dry(-1)", x.dry(-1), -1, 0, 0);
        FullStopWells y = Due.made("66" + "1" + ".".repeat(34) + "1", "");
        Due.row(y, "dry(10) of none", y.dry(10), (1L << 36) - 1, 36, 2);
        y.says(0, 1, 1);
        Due.row(y, "dry(9)", y.dry(9), 1L << 35, 1, 1);
        Due.row(y, "dry(10)", y.dry(10), 0, 0, 0);
        Due.row(y, "dry(8)", y.dry(8), 1L << 35 | 1L << 34 | 1L << 29, 3, 1);
    }

    public static void main(String[] args) {
        promise29();
        promise30();
        promise31();
        promise32();
        promise33();
        Due.end("promises 29 to 33");
    }
}
