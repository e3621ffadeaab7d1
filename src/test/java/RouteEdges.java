/** Edges that promises 29 to 33 name. */
final class RouteEdges {
    private static final int[] OTHER_FAR = {-1, 11, TermEdges.LEAST, TermEdges.GREATEST};

    private RouteEdges() {
    }

    static void all() {
        twins();
        route();
        reach();
        square();
        dry();
    }

    private static void twins() {
        Edge.test(29, "The two WELLS that are the nearest to each other: how FAR", RouteEdges::nearestTwo);
        Edge.test(29, "the ROW: the two, the lesser first (of like ones the least row)", RouteEdges::leastTwins);
        Edge.test(29, "-2: fewer than two", () -> fewerThanTwo("twins", false));
    }

    private static void nearestTwo() {
        FullStopWells x = Due.made(TermEdges.WIDE, "001.;551.");
        Due.row(x, "the farthest there can be", x.twins(), 10, 0, 1);
        x.says(14, 1, 1);
        Due.row(x, "one between", x.twins(), 4, 0, 2);
        x.says(34, 1, 1);
        Due.row(x, "beside the second", x.twins(), 1, 1, 3);
        x.undo();
        x.undo();
        Due.row(x, "the two again", x.twins(), 10, 0, 1);
    }

    private static void leastTwins() {
        FullStopWells x = Due.made(TermEdges.BARE, "001.;211.;221.;011.");
        Due.row(x, "0 and 3, not 1 and 2", x.twins(), 1, 0, 3);
        FullStopWells y = Due.made(TermEdges.BARE, "001.;021.;221.;201.");
        Due.row(y, "0 and 1 of four like ones", y.twins(), 2, 0, 1);
        FullStopWells z = Due.made(TermEdges.BARE, "001.;201.;121.;021.;221.");
        Due.row(z, "2 and 3, not 2 and 4", z.twins(), 1, 2, 3);
        FullStopWells full = Due.made(TermEdges.BARE, TermEdges.EIGHT);
        Due.row(full, "of eight", full.twins(), 1, 0, 1);
    }

    private static void fewerThanTwo(String call, boolean isReach) {
        FullStopWells x = Due.made(TermEdges.PLAIN, "");
        x.covers(0);
        Due.row(x, call + " of none", isReach ? x.reach() : x.twins(), -2, 0, 4, 8);
        x.says(0, 1, 1);
        Due.row(x, call + " of one", isReach ? x.reach() : x.twins(), -2, 0, 4, 8);
        x.says(1, 1, 1);
        Due.is(call + " of two", isReach ? x.reach() : x.twins(), 1);
    }

    private static void route() {
        Edge.test(30, "From a WELL to another one (or itself), over others", RouteEdges::toItself);
        Edge.test(30, "each next one FAR v (0 .. 10) or less from the one ahead", RouteEdges::stepsOfEachV);
        Edge.test(30, "the fewest WELLS (both counted): how many", RouteEdges::fewestWells);
        Edge.test(30, "the ROW: they, in turn (of as few the least row)", RouteEdges::leastRoute);
        Edge.test(30, "-2: none", RouteEdges::noRoute);
        Edge.test(30, "NONE: others", RouteEdges::otherRoutes);
    }

    private static void toItself() {
        FullStopWells x = TermEdges.made();
        for (int v = 0; v <= 10; v++) {
            Due.row(x, "to itself", x.route(1, 1, v), 1, 1);
        }
        Due.row(x, "there", x.route(0, 1, 2), 2, 0, 1);
        Due.row(x, "back", x.route(1, 0, 2), 2, 1, 0);
    }

    private static void stepsOfEachV() {
        FullStopWells x = Due.made(TermEdges.WIDE, "001.;551.");
        for (int v = 0; v <= 9; v++) {
            Due.is("corner to corner by " + v, x.route(0, 1, v), -2);
        }
        Due.row(x, "by 10", x.route(0, 1, 10), 2, 0, 1);
        FullStopWells y = Due.made(TermEdges.BARE, "001.;011.");
        Due.is("beside it by 0", y.route(0, 1, 0), -2);
        Due.row(y, "beside it by 1", y.route(0, 1, 1), 2, 0, 1);
    }

    private static void fewestWells() {
        FullStopWells x = Due.made("36" + ".".repeat(18), "001.;011.;021.;031.;041.;051.;151.;251.");
        int[] due = {8, 5, 4, 3, 3, 3, 2};
        for (int v = 1; v <= 7; v++) {
            Due.is("by " + v, x.route(0, 7, v), due[v - 1]);
        }
        Due.row(x, "over all eight", x.route(7, 0, 1), 8, 7, 6, 5, 4, 3, 2, 1, 0);
    }

    private static void leastRoute() {
        FullStopWells x = Due.made("44" + ".".repeat(16), "121.;201.;101.;301.;221.;111.;211.");
        Due.row(x, "over 4 and 6, not 5 and 2", x.route(0, 1, 1), 4, 0, 4, 6, 1);
        Due.row(x, "back over 2 and 5", x.route(1, 0, 1), 4, 1, 2, 5, 0);
        FullStopWells y = Due.made(TermEdges.BARE, "001.;221.;211.;021.;101.");
        Due.row(y, "by 3 over 2, not over 3 or 4", y.route(0, 1, 3), 3, 0, 2, 1);
        Due.row(y, "by 2 over 3", y.route(0, 1, 2), 3, 0, 3, 1);
    }

    private static void noRoute() {
        FullStopWells x = Due.made(TermEdges.PLAIN, "001.;221.;211.");
        x.covers(0);
        Due.row(x, "by 2", x.route(0, 1, 2), -2, 0, 4, 8);
        Due.row(x, "by 0", x.route(1, 2, 0), -2, 0, 4, 8);
        Due.row(x, "by 3", x.route(0, 1, 3), 3, 0, 2, 1);
    }

    private static void otherRoutes() {
        int[] wells = {-1, 2, 8, TermEdges.LEAST, TermEdges.GREATEST};
        FullStopWells x = TermEdges.made();
        x.covers(0);
        for (int well : wells) {
            Due.row(x, "from " + well, x.route(well, 0, 1), -1, 0, 4, 8);
            Due.row(x, "to " + well, x.route(0, well, 1), -1, 0, 4, 8);
            Due.row(x, "from and to " + well, x.route(well, well, 1), -1, 0, 4, 8);
        }
        for (int v : OTHER_FAR) {
            Due.row(x, "by " + v, x.route(0, 1, v), -1, 0, 4, 8);
            Due.row(x, "to itself by " + v, x.route(0, 0, v), -1, 0, 4, 8);
        }
    }

    private static void reach() {
        Edge.test(31, "The least v by which there is such a route from each WELL to each other one: it", RouteEdges::leastReach);
        Edge.test(31, "the ROW: the two WELLS that are the farthest apart (the least row), how FAR", RouteEdges::farthestTwo);
        Edge.test(31, "-2: fewer than two WELLS", () -> fewerThanTwo("reach", true));
    }

    private static void leastReach() {
        FullStopWells x = Due.made(TermEdges.WIDE, "001.;551.");
        Due.row(x, "corner to corner", x.reach(), 10, 0, 1, 10);
        x.says(14, 1, 1);
        Due.row(x, "one between", x.reach(), 6, 0, 1, 10);
        x.says(21, 1, 1);
        Due.row(x, "two between", x.reach(), 4, 0, 1, 10);
        FullStopWells y = Due.made(TermEdges.BARE, TermEdges.EIGHT);
        Due.row(y, "eight side by side", y.reach(), 1, 2, 6, 4);
        FullStopWells z = Due.made(TermEdges.WIDE, "001.;011.;541.;551.");
        Due.row(z, "two and two", z.reach(), 8, 0, 3, 10);
    }

    private static void farthestTwo() {
        FullStopWells x = Due.made(TermEdges.BARE, "001.;021.;201.;221.;111.");
        Due.row(x, "0 and 3, not 1 and 2", x.reach(), 2, 0, 3, 4);
        FullStopWells w = Due.made(TermEdges.WIDE, "221.;001.;551.");
        Due.row(w, "1 and 2", w.reach(), 6, 1, 2, 10);
        FullStopWells v = Due.made(TermEdges.WIDE, "001.;011.");
        v.says(35, 1, 1);
        v.undo();
        Due.row(v, "not one that is gone", v.reach(), 1, 0, 1, 1);
        v.says(35, 1, 1);
        Due.row(v, "0 and 2", v.reach(), 9, 0, 2, 10);
        FullStopWells y = Due.made(TermEdges.BARE, "111.;001.;011.;021.");
        Due.row(y, "0 and 1, of like ones the least", y.reach(), 1, 0, 1, 2);
        FullStopWells z = Due.made(TermEdges.BARE, "111.;011.;001.;021.;221.");
        Due.row(z, "2 and 4", z.reach(), 2, 2, 4, 4);
    }

    private static void square() {
        Edge.test(32, "The greatest square of FIELDS without WELLS: how many FIELDS its side has", RouteEdges::sides);
        Edge.test(32, "the ROW: its first FIELD (up and left; of as great ones the first; nothing without)", RouteEdges::firstFields);
    }

    private static void sides() {
        for (int rows = 3; rows <= 6; rows++) {
            for (int columns = 3; columns <= 6; columns++) {
                FullStopWells x = Due.made("" + rows + columns + ".".repeat(rows * columns), "");
                Due.row(x, "of " + rows + " by " + columns, x.square(), Math.min(rows, columns), 0);
            }
        }
        FullStopWells y = Due.made(TermEdges.BARE, TermEdges.EIGHT);
        Due.row(y, "the least there can be", y.square(), 1, 8);
        FullStopWells z = Due.made(TermEdges.BARE, "001.");
        Due.is("beside a corner", z.square(), 2);
        Due.is("round the middle", Due.made(TermEdges.BARE, "111.").square(), 1);
    }

    private static void firstFields() {
        FullStopWells x = Due.made(TermEdges.BARE, "001.");
        Due.row(x, "1, not 3 or 4", x.square(), 2, 1);
        x.says(1, 1, 1);
        Due.row(x, "3", x.square(), 2, 3);
        x.says(6, 1, 1);
        Due.row(x, "4", x.square(), 2, 4);
        x.says(8, 1, 1);
        Due.row(x, "2 of as great ones", x.square(), 1, 2);
        FullStopWells y = Due.made(TermEdges.WIDE, "551.");
        Due.row(y, "5 but the last ROW and COLUMN", y.square(), 5, 0);
        y.says(0, 1, 1);
        Due.row(y, "5 between", y.square(), 5, 1);
        y.says(14, 1, 1);
        Due.row(y, "3 of as great ones", y.square(), 3, 3);
    }

    private static void dry() {
        Edge.test(33, "FIELDS (bits) that are FAR v (0 .. 10) or less from no WELL", RouteEdges::dryOfEachV);
        Edge.test(33, "the ROW: how many, how many VILLAGES there", RouteEdges::rowOfDry);
        Edge.test(33, "NONE: another v", RouteEdges::otherDry);
    }

    private static void dryOfEachV() {
        FullStopWells x = Due.made(TermEdges.WIDE, "001.");
        int[] due = {35, 33, 30, 26, 21, 15, 10, 6, 3, 1, 0};
        for (int v = 0; v <= 10; v++) {
            long set = x.dry(v);
            Due.is("how many by " + v, Long.bitCount(set), due[v]);
            Due.is("the last FIELD by " + v, set >>> 35, v < 10 ? 1 : 0);
            Due.is("the first FIELD by " + v, set & 1, 0);
        }
        FullStopWells none = Due.made(TermEdges.WIDE, "");
        Due.row(none, "without WELLS by 10", none.dry(10), (1L << 36) - 1, 36, 0);
        FullStopWells full = Due.made(TermEdges.BARE, TermEdges.EIGHT);
        Due.row(full, "by 0", full.dry(0), 256, 1, 0);
        Due.row(full, "by 1", full.dry(1), 0, 0, 0);
    }

    private static void rowOfDry() {
        FullStopWells x = TermEdges.made();
        Due.row(x, "dry(0)", x.dry(0), 0b101111101, 7, 3);
        Due.row(x, "dry(1)", x.dry(1), 0b000101000, 2, 0);
        x.says(8, 1, 1);
        Due.row(x, "a WELL on a VILLAGE", x.dry(0), 0b001111101, 6, 2);
        FullStopWells y = Due.made("66" + "1....." + "......".repeat(4) + ".....1", "");
        Due.row(y, "without WELLS", y.dry(0), (1L << 36) - 1, 36, 2);
        y.says(0, 1, 1);
        Due.row(y, "the last FIELD alone", y.dry(9), 1L << 35, 1, 1);
    }

    private static void otherDry() {
        FullStopWells x = TermEdges.made();
        x.covers(0);
        for (int v : OTHER_FAR) {
            Due.row(x, "dry(" + v + ")", x.dry(v), -1, 0, 4, 8);
        }
    }
}
