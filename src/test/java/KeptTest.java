/** Promises 45 to 48: kept. */
final class KeptTest {
    private static final String PLAIN = "33" + "2.." + ".1." + "..3";
    private static final String WELLS = "014.;215,";

    private KeptTest() {
    }

    private static void promises45And46() {
        FullStopWells x = Due.made(PLAIN, WELLS);
        int[] others = {-1, 2, Integer.MIN_VALUE, Integer.MAX_VALUE};
        for (int i : others) {
            Due.is("keep(" + i + ")", x.keep(i), false);
            Due.is("again(" + i + ")", x.again(i), false);
        }
        Due.is("again(0) of nothing", x.again(0), false);
        x.ands(0);
        x.seasons(2);
        Due.is("keep(0)", x.keep(0), true);
        Due.is("count(11)", x.count(11), 2);
        Due.is("again(1) of nothing", x.again(1), false);
        x.says(0, 9, 1);
        x.clears(0);
        x.repents(1);
        Due.is("keep(1)", x.keep(1), true);
        x.seasons(5);
        Due.rule(x, "3");
        Due.is("again(0)", x.again(0), true);
        long[] counts = {3, 3, 3, 2, 2, 2, 2, 6, 1, 2, 0, 0};
        for (int what = 0; what < counts.length; what++) {
            Due.is("count(" + what + ")", x.count(what), counts[what]);
        }
        Due.is("meant", x.well(1, 2), 0);
        Due.is("the rule stays", x.well(0, 6), 3);
        Due.is("undo", x.undo(), -1);
        x.seasons(1);
        Due.is("again(1)", x.again(1), true);
        Due.is("count(3)", x.count(3), 3);
        Due.is("count(8)", x.count(8), 0);
        Due.is("meant", x.well(1, 2), 1);
        Due.is("again(0) once more", x.again(0), true);
        Due.is("count(8)", x.count(8), 1);
        x.clears(0);
        Due.is("keep(0) anew", x.keep(0), true);
        Due.is("count(11)", x.count(11), 1);
        Due.is("again(0)", x.again(0), true);
        Due.is("count(8)", x.count(8), 0);
        Due.is("wells of nothing", Due.wells(x, ""), 0);
        Due.is("wells that can't be", Due.wells(x, "01"), -2);
        Due.is("plain that can't be", Due.plain(x, "3"), -2);
        Due.is("again(1)", x.again(1), true);
        Due.is("wells", Due.wells(x, "221."), 1);
        Due.is("again(0) behind wells", x.again(0), false);
        Due.is("again(1) behind wells", x.again(1), false);
        Due.is("keep(0) behind wells", x.keep(0), true);
        Due.is("again(0)", x.again(0), true);
        Due.is("plain", Due.plain(x, "33........."), 9);
        Due.is("again(0) behind plain", x.again(0), false);
    }

    private static void promise47() {
        FullStopWells x = Due.made("45" + "12345" + "....." + "....6" + ".....", "001.;011,;331.");
        x.ands(1);
        x.ands(1);
        x.ands(2);
        x.seasons(3);
        x.heard(0, 3);
        x.sign(0);
        long[] counts = {4, 5, 6, 3, 3, 13, 0, 21, 3, 7, 1, 4, 2, 4};
        counts[5] = x.count(5);
        counts[6] = x.well(0, 4) + x.well(1, 4) + x.well(2, 4);
        counts[9] = (x.well(0, 4) == 0 ? 1 : 0) | (x.well(1, 4) == 0 ? 2 : 0) | (x.well(2, 4) == 0 ? 4 : 0);
        for (int what = 0; what < counts.length; what++) {
            Due.is("count(" + what + ")", x.count(what), counts[what]);
        }
        Due.is("count(-1)", x.count(-1), -1);
        Due.is("count(14)", x.count(14), -1);
        Due.is("count(MIN)", x.count(Integer.MIN_VALUE), -1);
        x.sheet(2, 3, 0, 4);
        Due.is("count(9)", x.count(9), 1);
        Due.is("count(6)", x.count(6), 12);
    }

    private static void promise48() {
        FullStopWells x = Due.made(PLAIN, WELLS);
        Due.throwsNoSuchElement("row(0) of nothing", () -> x.row(0));
        x.covers(0);
        Due.is("row(2)", x.row(2), 8);
        int[] others = {3, -1, Integer.MAX_VALUE, Integer.MIN_VALUE};
        for (int i : others) {
            Due.throwsNoSuchElement("row(" + i + ")", () -> x.row(i));
        }
        x.ands(0);
        x.undo();
        x.count(3);
        Due.is("the ROW stays with what has none", x.count(12), 3);
        x.squares(2);
        Due.throwsNoSuchElement("row(0) of none", () -> x.row(0));
    }

    public static void main(String[] args) {
        promises45And46();
        promise47();
        promise48();
        Due.end("promises 45 to 48");
    }
}
