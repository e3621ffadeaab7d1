/** Promises 10 to 17: seasons, sayings. */
final class SayingTest {
    private static final String PLAIN = "33" + "2.." + ".1." + "..3";
    private static final String WELLS = "014.;215,";

    private SayingTest() {
    }

    private static void promise10() {
        FullStopWells x = Due.made(PLAIN, WELLS);
        Due.row(x, "seasons(0)", x.seasons(0), 0, 0, 2);
        Due.is("seasons(0) is not kept", x.count(11), 0);
        Due.row(x, "seasons(1)", x.seasons(1), 3, 1, 1);
        Due.is("count(4)", x.count(4), 1);
        Due.row(x, "seasons(2)", x.seasons(2), 9, 2, 1);
        Due.row(x, "seasons(61)", x.seasons(61), -1, 2, 1);
        Due.row(x, "seasons(-1)", x.seasons(-1), -1, 2, 1);
        Due.is("count(11)", x.count(11), 2);
        // 99 at most ahead of the drawing: 3 are drawn from it each time
        Due.row(x, "seasons(60)", x.seasons(60), 96, 60, 1);
        Due.is("count(5)", x.count(5), 63);
        // the nearest water is drawn from, though there is not enough in it, and more in another
        x.sheet(2, 2, 50, -48);
        Due.rule(x, "0");
        Due.row(x, "seasons(1)", x.seasons(1), 47, 1, 1);
        Due.row(x, "seasons(1), the near one being dry", x.seasons(1), 41, 0, 1);
        FullStopWells y = Due.made("33" + "111" + "111" + "...", "");
        for (int i = 1; i <= 27; i++) {
            Due.row(y, "seasons(60)", y.seasons(60), 0, 360, 0);
        }
        Due.row(y, "seasons(60) up to 9999", y.seasons(60), 0, 279, 0);
        Due.row(y, "seasons(60) from 9999", y.seasons(60), 0, 0, 0);
        Due.is("count(5)", y.count(5), 9999);
        Due.is("count(4)", y.count(4), 29 * 60);
        // SEASON by 4 is the rule's n: 0 + 1 + 2 + 3 + 0
        FullStopWells z = Due.made("33.........", "009,;019.");
        Due.rule(z, "n*m");
        Due.row(z, "seasons(5)", z.seasons(5), 6, 0, 1);
    }

    private static void promise11() {
        FullStopWells x = Due.made(PLAIN, WELLS);
        int[][] others = {{-1, 1, 1}, {9, 1, 1}, {0, 0, 1}, {0, 10, 1}, {0, 1, 2}, {0, 1, -1}, {1, 0, 1}, {1, 1, 2}, {Integer.MIN_VALUE, 1, 1}};
        for (int[] one : others) {
            Due.is("says " + one[0] + " " + one[1] + " " + one[2], x.says(one[0], one[1], one[2]), -1);
        }
        Due.is("says on a well", x.says(7, 9, 1), -2);
        Due.is("nothing is kept of it", x.count(11), 0);
        int[] fields = {0, 2, 3, 4, 5, 6};
        for (int i = 0; i < fields.length; i++) {
            Due.is("says", x.says(fields[i], i + 4, i % 2), 2 + i);
            Due.is("words", x.well(2 + i, 1), i + 4);
            Due.is("meant", x.well(2 + i, 2), i % 2);
            Due.is("depth", x.well(2 + i, 5), i % 2 == 1 ? 6 - i : 1);
        }
        Due.is("says on a well, of 8", x.says(0, 9, 1), -2);
        Due.is("says, of 8", x.says(8, 9, 1), -3);
        Due.is("others, of 8", x.says(8, 10, 1), -1);
        Due.is("count(11)", x.count(11), 6);
    }

    private static void promise12() {
        FullStopWells x = Due.made(PLAIN, WELLS);
        for (int i = 1; i <= 9; i++) {
            Due.is("ands(1)", x.ands(1), i);
        }
        Due.is("ands(1)", x.ands(1), -2);
        Due.is("ands(2)", x.ands(2), -1);
        Due.is("ands(-1)", x.ands(-1), -1);
        Due.is("count(8)", x.count(8), 9);
        Due.is("count(11)", x.count(11), 9);
        x.ands(0);
        Due.is("flow of 4 words and one and", x.well(0, 6), 4);
    }

    private static void promise13() {
        FullStopWells x = Due.made(PLAIN, WELLS);
        Due.is("clears(0) of none", x.clears(0), -2);
        x.ands(0);
        x.ands(0);
        x.ands(1);
        Due.is("clears(0)", x.clears(0), 2);
        Due.is("clears(0)", x.clears(0), -2);
        Due.is("clears(2)", x.clears(2), -1);
        Due.is("clears(-5)", x.clears(-5), -1);
        Due.is("those of the other stay", x.count(8), 1);
        Due.is("count(11)", x.count(11), 4);
    }

    private static void promise14() {
        FullStopWells x = Due.made(PLAIN, WELLS);
        Due.is("draws of a dry one", x.draws(0, 1), -2);
        x.sheet(2, 2, 99, 0);
        Due.is("draws(0, 0)", x.draws(0, 0), -1);
        Due.is("draws(0, 100)", x.draws(0, 100), -1);
        Due.is("draws(2, 1)", x.draws(2, 1), -1);
        Due.is("draws(-1, 1)", x.draws(-1, 1), -1);
        Due.is("draws(0, 99)", x.draws(0, 99), 0);
        Due.is("draws(1, 40)", x.draws(1, 40), 59);
        Due.is("draws(1, 60)", x.draws(1, 60), -2);
        Due.is("count(6)", x.count(6), 59);
        Due.is("count(11)", x.count(11), 2);
    }

    private static void promise15() {
        FullStopWells x = Due.made(PLAIN, WELLS);
        Due.is("repents(0)", x.repents(0), 1);
        Due.is("repents(1)", x.repents(1), 5);
        Due.is("meant 0", x.well(0, 2), 0);
        Due.is("meant 1", x.well(1, 2), 1);
        Due.is("repents(0)", x.repents(0), 6);
        Due.is("repents(2)", x.repents(2), -1);
        Due.is("repents(-1)", x.repents(-1), -1);
        Due.is("count(11)", x.count(11), 3);
    }

    private static void promise16() {
        String[] texts = {"x", "n", "nx", "n1x", "s", "s0", "s00", "s000", "s00x", "s001", "s001;", "sx", "s0x", "a", "a.", "c", "cx",
            "d", "d0", "d00", "d0x", "r", "rn", "n1;n1", "n1,", "n0".repeat(30) + "n", "n0".repeat(29) + "s001.", "n0".repeat(29) + "s001;",
            "n0".repeat(30) + "x", "n0".repeat(29) + "nx", "N1"};
        int[] due = {-1, -2, -2, -3, -2, -3, -4, -4, -4, -5, -5, -2, -3, -2, -2, -2, -2,
            -2, -3, -3, -3, -2, -2, -3, -3, -61, -61, -61,
            -61, -60, -1};
        for (int i = 0; i < texts.length; i++) {
            FullStopWells x = Due.made(PLAIN, WELLS);
            x.seasons(1);
            Due.row(x, "year of " + texts[i], Due.year(x, texts[i]), due[i], 1, 1);
            Due.is("count(13)", x.count(13), 0);
            Due.is("nothing is done", x.count(4), 1);
            Due.is("count(11)", x.count(11), 1);
        }
        FullStopWells x = Due.made(PLAIN, WELLS);
        Due.row(x, "year of nothing", Due.year(x, ""), 0, 0, 0);
        Due.row(x, "year of what can't be", Due.year(x, "c0n1"), 0, 1, 0);
        Due.is("it was not done", x.count(11), 0);
        Due.row(x, "year n2a0a0r1s009.n1d05c0", Due.year(x, "n2a0a0r1s009.n1d05c0"), 8, 0, 4);
        Due.is("count(11)", x.count(11), 1);
        Due.is("count(4)", x.count(4), 3);
        Due.is("undo", x.undo(), 0);
        Due.is("count(4)", x.count(4), 0);
        Due.is("count(3)", x.count(3), 2);
        Due.is("well(1, 2)", x.well(1, 2), 0);
        Due.row(x, "year of n0", Due.year(x, "n0"), 1, 0, 0);
        Due.is("an act is an act", x.count(11), 1);
        Due.row(x, "a row that is not there", Due.year(x, "a0s301.a0"), 1, 1, 0);
        Due.row(x, "a column that is not there", Due.year(x, "a0s031.a0"), 1, 1, 0);
        Due.row(x, "a field with a well", Due.year(x, "a0s011.a0"), 1, 1, 0);
        Due.row(x, "a well that is not there", Due.year(x, "r9"), 0, 1, 0);
        Due.row(x, "d beyond what there is", Due.year(x, "n1d09"), 1, 1, 0);
        Due.row(x, "comma", Due.year(x, "s222,r2"), 2, 0, 0);
        Due.is("words", x.well(2, 1), 2);
        Due.is("meant", x.well(2, 2), 1);
        Due.row(x, "60 signs", Due.year(x, "r0".repeat(30)), 30, 0, 0);
        Due.row(x, "ten ands", Due.year(x, "a1".repeat(10)), 9, 1, 0);
    }

    private static void promise17() {
        FullStopWells x = Due.made(PLAIN, WELLS);
        Due.is("undo of nothing", x.undo(), -1);
        for (int i = 1; i <= 13; i++) {
            x.seasons(1);
            Due.is("count(11)", x.count(11), Math.min(12, i));
        }
        for (int i = 11; i >= 0; i--) {
            Due.is("undo", x.undo(), i);
            Due.is("season", x.count(4), i + 1);
            Due.is("parched", x.count(5), i + 1);
            Due.is("water", x.count(6), 3 * (i + 1));
        }
        Due.is("undo", x.undo(), -1);
        x.says(0, 1, 1);
        x.ands(2);
        x.clears(2);
        x.repents(1);
        x.draws(0, 2);
        Due.is("undo draws", x.undo(), 4);
        Due.is("water", x.well(0, 4), 3);
        Due.is("undo repents", x.undo(), 3);
        Due.is("meant", x.well(1, 2), 0);
        Due.is("undo clears", x.undo(), 2);
        Due.is("ands", x.well(2, 3), 1);
        Due.is("undo ands", x.undo(), 1);
        Due.is("ands", x.well(2, 3), 0);
        Due.is("undo says", x.undo(), 0);
        Due.throwsNoSuchElement("well(2, 0)", () -> x.well(2, 0));
        x.ands(0);
        Due.plain(x, "3");
        Due.wells(x, "0");
        Due.wells(x, "");
        x.again(0);
        Due.is("these forget nothing", x.count(11), 1);
        Due.rule(x, "1");
        x.keep(0);
        x.heard(0, 1);
        x.years(5, 5);
        Due.is("these neither", x.count(11), 1);
        Due.is("undo undoes no years()", x.undo(), 0);
        Due.is("wells", x.count(3), 2);
        Due.is("season", x.count(4), 1);
        x.ands(0);
        Due.is("wells told", Due.wells(x, "001."), 1);
        Due.is("forgotten", x.undo(), -1);
        x.ands(0);
        Due.is("plain told", Due.plain(x, "33........."), 9);
        Due.is("forgotten", x.undo(), -1);
    }

    public static void main(String[] args) {
        promise10();
        promise11();
        promise12();
        promise13();
        promise14();
        promise15();
        promise16();
        promise17();
        Due.end("promises 10 to 17");
    }
}
