/** Edges that promises 34 to 38 name. */
final class HeardEdges {
    private HeardEdges() {
    }

    static void all() {
        heard();
        fits();
        asks();
        meant();
    }

    private static void heard() {
        Edge.test(34, "It was heard of a saying that, what 0: it has v (1 .. 9) WORDS or more", HeardEdges::heardOfWords);
        Edge.test(34, "1: it is MEANT (1) or not (0)", HeardEdges::heardOfMeaning);
        Edge.test(34, "2: its WATER is v (0 .. 99) or more", HeardEdges::heardOfWater);
        Edge.test(34, "3: it is in ROW v (0 .. 5)", HeardEdges::heardOfARow);
        Edge.test(34, "4: a VILLAGE v (0 .. 5) draws from it first (as well() 7): how many such", HeardEdges::heardOfAVillage);
        Edge.test(34, "Refused: others, 12", HeardEdges::heardOthers);
        Edge.test(35, "It is forgotten: how many there were", HeardEdges::forgotten);
    }

    /** What fits when one thing alone was heard. */
    private static int fitting(FullStopWells x, int what, int v) {
        x.forget();
        Due.is("heard(" + what + ", " + v + ")", x.heard(what, v), 1);
        return x.fits();
    }

    private static void refuses(int what, int... vs) {
        FullStopWells x = TermEdges.made();
        x.heard(0, 1);
        for (int v : vs) {
            Due.is("heard(" + what + ", " + v + ")", x.heard(what, v), -1);
        }
        Due.is("what was heard", x.count(10), 1);
    }

    private static void heardOfWords() {
        FullStopWells x = Due.made(TermEdges.BARE, "001.;015,;029.");
        int[] due = {7, 6, 6, 6, 6, 4, 4, 4, 4};
        for (int v = 1; v <= 9; v++) {
            Due.is("fits() of " + v + " or more", fitting(x, 0, v), due[v - 1]);
        }
        refuses(0, 0, 10, -1, TermEdges.LEAST, TermEdges.GREATEST);
    }

    private static void heardOfMeaning() {
        FullStopWells x = TermEdges.made();
        Due.is("not", fitting(x, 1, 0), 2);
        Due.is("MEANT", fitting(x, 1, 1), 1);
        refuses(1, -1, 2, TermEdges.LEAST, TermEdges.GREATEST);
    }

    private static void heardOfWater() {
        FullStopWells x = Due.made(TermEdges.BARE, "001.;011.;021.");
        x.sheet(2, 3, 0, 50);
        int[][] due = {{0, 7}, {1, 6}, {50, 6}, {51, 4}, {99, 4}};
        for (int[] one : due) {
            Due.is("fits() of WATER " + one[0], fitting(x, 2, one[0]), one[1]);
        }
        x.draws(2, 1);
        Due.is("fits() of WATER 99", x.fits(), 0);
        refuses(2, -1, 100, TermEdges.LEAST, TermEdges.GREATEST);
    }

    private static void heardOfARow() {
        FullStopWells x = Due.made("63" + ".".repeat(18), "001.;121.;301.;521.");
        int[] due = {1, 2, 0, 4, 0, 8};
        for (int v = 0; v <= 5; v++) {
            Due.is("fits() of ROW " + v, fitting(x, 3, v), due[v]);
        }
        Due.is("a ROW that the PLAIN has not", fitting(TermEdges.made(), 3, 5), 0);
        refuses(3, -1, 6, TermEdges.LEAST, TermEdges.GREATEST);
    }

    private static void heardOfAVillage() {
        FullStopWells x = Due.made("33" + "11." + "111" + "..1", "001.;221.");
        Due.is("none has WATER", fitting(x, 4, 0), 0);
        x.sheet(2, 2, 1, 0);
        int[] due = {1, 1, 1, 1, 2, 2};
        for (int v = 0; v <= 5; v++) {
            Due.is("fits() of VILLAGE " + v, fitting(x, 4, v), due[v]);
        }
        FullStopWells y = TermEdges.made();
        y.sheet(2, 2, 1, 0);
        Due.is("a VILLAGE that is not there", fitting(y, 4, 3), 0);
        Due.is("how many such", y.heard(4, 5), 2);
        refuses(4, -1, 6, TermEdges.LEAST, TermEdges.GREATEST);
    }

    private static void heardOthers() {
        refuses(5, 0, 1);
        refuses(-1, 0, 1);
        refuses(TermEdges.LEAST, 1);
        refuses(TermEdges.GREATEST, 1);
        FullStopWells x = TermEdges.made();
        for (int i = 1; i <= 12; i++) {
            Due.is("heard", x.heard(0, 4), i);
        }
        Due.is("a thirteenth", x.heard(1, 1), -1);
        Due.is("what was heard", x.count(10), 12);
        Due.is("the thirteenth is not heard", x.fits(), 3);
    }

    private static void forgotten() {
        FullStopWells x = TermEdges.made();
        Due.is("nothing", x.forget(), 0);
        for (int i = 0; i < 12; i++) {
            x.heard(0, 9);
        }
        Due.is("fits()", x.fits(), 0);
        Due.is("twelve", x.forget(), 12);
        Due.is("what was heard", x.count(10), 0);
        Due.is("fits()", x.fits(), 3);
        Due.is("nothing more", x.forget(), 0);
        Due.is("heard anew", x.heard(0, 1), 1);
    }

    private static void fits() {
        Edge.test(36, "WELLS (bits) that fit all that was heard now", HeardEdges::fitsAll);
        Edge.test(36, "the ROW: how many", HeardEdges::howManyFit);
    }

    private static void fitsAll() {
        FullStopWells x = Due.made(TermEdges.BARE, TermEdges.EIGHT.replace("21.", "29,"));
        Due.is("nothing heard", x.fits(), 255);
        x.heard(1, 1);
        Due.is("MEANT", x.fits(), 0b11011011);
        x.heard(3, 2);
        Due.is("and in ROW 2", x.fits(), 0b11000000);
        x.heard(2, 1);
        Due.is("and not dry", x.fits(), 0);
        x.sheet(2, 8, -6, 1);
        Due.is("and not dry now", x.fits(), 0b10000000);
        Due.is("of no WELLS", new FullStopWells().fits(), 0);
    }

    private static void howManyFit() {
        FullStopWells x = Due.made(TermEdges.BARE, TermEdges.EIGHT);
        Due.row(x, "all", x.fits(), 255, 8);
        x.heard(3, 0);
        Due.row(x, "in ROW 0", x.fits(), 7, 3);
        x.heard(0, 2);
        Due.row(x, "none", x.fits(), 0, 0);
        FullStopWells none = new FullStopWells();
        Due.row(none, "of no WELLS", none.fits(), 0, 0);
    }

    private static void asks() {
        Edge.test(37, "What to ask next, so that, it is so or not, the fewest such WELLS are left at most", HeardEdges::fewestLeft);
        Edge.test(37, "10 times what (0, 1, 3) and v, as they may be heard", HeardEdges::asTheyMayBeHeard);
        Edge.test(37, "of equal ones the least: it", HeardEdges::leastQuestion);
        Edge.test(37, "the ROW: how many at most", HeardEdges::howManyAtMost);
        Edge.test(37, "-2: none fits", HeardEdges::noneToAskOf);
    }

    private static void asked(String wells, int due, int most) {
        FullStopWells x = Due.made("66" + ".".repeat(36), wells);
        Due.row(x, "asks() of " + wells, x.asks(), due, most);
    }

    private static void fewestLeft() {
        asked("002.;013.;024.;035.", 4, 2);
        asked("001.;011.;022.;031,;041,;051,", 10, 3);
        asked("001.;011.;101.;111.", 30, 2);
        FullStopWells x = Due.made(TermEdges.BARE, "001.;012.;105,;116,;127,;209,");
        Due.row(x, "of all", x.asks(), 6, 3);
        x.heard(0, 6);
        Due.row(x, "of those that fit", x.asks(), 7, 2);
        x.heard(0, 7);
        Due.row(x, "of two that fit", x.asks(), 8, 1);
        x.heard(3, 2);
        Due.row(x, "of one", x.asks(), 1, 1);
    }

    private static void asTheyMayBeHeard() {
        asked("008.;019.", 9, 1);
        asked("001.;012.", 2, 1);
        asked("001.;011,", 10, 1);
        asked("001.;101.", 30, 1);
        asked("501.;511.;401.;301.", 35, 2);
        // what 2 and 4 are not asked: their WATER and their VILLAGE alone are not the same
        FullStopWells x = Due.made(TermEdges.PLAIN, "001.;011.");
        x.sheet(2, 2, 0, 9);
        Due.row(x, "of like ones", x.asks(), 1, 2);
    }

    private static void leastQuestion() {
        asked("001.;015.;101,;115,", 2, 2);
        asked("001.;011,;101.;111,", 10, 2);
        asked("005.;015.;105.;115.;205.;215.", 30, 4);
        asked("101.;111.;201.;211.", 31, 2);
    }

    private static void howManyAtMost() {
        asked("001.", 1, 1);
        asked("001.;011.;021.", 1, 3);
        asked("001.;011.;022.", 2, 2);
        asked("009.;018.;027.;036.;045.;054.;103.;112.", 6, 4);
        asked("001.;011.;021.;031.;041.;051.;101.;111.", 30, 6);
    }

    private static void noneToAskOf() {
        FullStopWells none = new FullStopWells();
        Due.row(none, "of no WELLS", none.asks(), -2);
        FullStopWells x = TermEdges.made();
        x.covers(0);
        x.heard(0, 6);
        Due.row(x, "none in 6 WORDS", x.asks(), -2, 0, 4, 8);
        x.forget();
        Due.row(x, "of two", x.asks(), 5, 1);
    }

    private static void meant() {
        Edge.test(38, "A saying is MEANT by p tenths (0 .. 10)", HeardEdges::byTenths);
        Edge.test(38, "one that is shows a sign each time by q tenths (0 .. 10), one that is not by r tenths (0 .. 10), each time by itself",
            HeardEdges::bySigns);
        Edge.test(38, "it showed k of n times (n 0 .. 7, k 0 .. n)", HeardEdges::howOften);
        Edge.test(38, "how likely it is MEANT: 0; the ROW: the fraction", HeardEdges::howLikely);
        Edge.test(38, "-2: it can't have been so", HeardEdges::cannotHaveBeen);
        Edge.test(38, "NONE: others", HeardEdges::othersOfMeant);
    }

    private static void meantIs(int p, int q, int r, int n, int k, long upper, long lower) {
        FullStopWells x = new FullStopWells();
        Due.row(x, "meant(" + p + ", " + q + ", " + r + ", " + n + ", " + k + ")", x.meant(p, q, r, n, k), 0, upper, lower);
    }

    private static void byTenths() {
        int[][] due = {{0, 1}, {1, 10}, {1, 5}, {3, 10}, {2, 5}, {1, 2}, {3, 5}, {7, 10}, {4, 5}, {9, 10}, {1, 1}};
        for (int p = 0; p <= 10; p++) {
            meantIs(p, 5, 5, 0, 0, due[p][0], due[p][1]);
            meantIs(p, 3, 3, 7, 2, due[p][0], due[p][1]);
        }
    }

    private static void bySigns() {
        meantIs(5, 10, 0, 1, 1, 1, 1);
        meantIs(5, 10, 0, 1, 0, 0, 1);
        meantIs(5, 0, 10, 1, 1, 0, 1);
        meantIs(5, 0, 10, 7, 0, 1, 1);
        meantIs(5, 8, 2, 1, 1, 4, 5);
        meantIs(5, 8, 2, 1, 0, 1, 5);
        meantIs(5, 8, 2, 2, 1, 1, 2);
        meantIs(5, 8, 2, 2, 2, 16, 17);
        meantIs(5, 10, 5, 3, 3, 8, 9);
        meantIs(5, 5, 10, 3, 3, 1, 9);
        meantIs(5, 5, 0, 2, 0, 1, 5);
    }

    private static void howOften() {
        // 4 to 7 for each of seven times that it did not
        meantIs(5, 6, 3, 7, 0, 16384, 839927);
        meantIs(5, 5, 5, 7, 7, 1, 2);
        meantIs(5, 2, 1, 7, 7, 128, 129);
        meantIs(5, 9, 8, 7, 0, 1, 129);
        meantIs(5, 6, 3, 0, 0, 1, 2);
        meantIs(1, 1, 10, 7, 7, 1, 90000001);
        meantIs(9, 10, 1, 7, 7, 90000000, 90000001);
    }

    private static void howLikely() {
        meantIs(2, 5, 5, 1, 0, 1, 5);
        meantIs(0, 5, 5, 1, 0, 0, 1);
        meantIs(10, 5, 5, 1, 0, 1, 1);
        meantIs(10, 10, 10, 7, 7, 1, 1);
        meantIs(0, 0, 0, 7, 0, 0, 1);
    }

    private static void cannotHaveBeen() {
        int[][] all = {{5, 10, 10, 1, 0}, {5, 0, 0, 1, 1}, {0, 5, 0, 1, 1}, {0, 5, 10, 7, 6}, {10, 0, 5, 7, 1}, {10, 10, 5, 1, 0}, {5, 10, 0, 2, 1},
            {5, 0, 10, 7, 6}};
        FullStopWells x = TermEdges.made();
        x.covers(0);
        for (int[] one : all) {
            Due.row(x, "meant of " + one[0] + " " + one[1] + " " + one[2], x.meant(one[0], one[1], one[2], one[3], one[4]), -2, 0, 4, 8);
        }
    }

    private static void othersOfMeant() {
        int[] good = {5, 5, 5, 3, 2};
        int[][] wrong = {{-1, 11, TermEdges.LEAST, TermEdges.GREATEST}, {-1, 11, TermEdges.LEAST, TermEdges.GREATEST},
            {-1, 11, TermEdges.LEAST, TermEdges.GREATEST}, {-1, 8, 1, TermEdges.LEAST, TermEdges.GREATEST},
            {-1, 4, TermEdges.LEAST, TermEdges.GREATEST}};
        FullStopWells x = TermEdges.made();
        x.covers(0);
        for (int i = 0; i < 5; i++) {
            for (int one : wrong[i]) {
                int[] of = good.clone();
                of[i] = one;
                Due.row(x, "meant, " + one + " at " + i, x.meant(of[0], of[1], of[2], of[3], of[4]), -1, 0, 4, 8);
            }
        }
        Due.is("n -1, k -1", x.meant(5, 5, 5, -1, -1), -1);
        Due.is("n 8, k 8", x.meant(5, 5, 5, 8, 8), -1);
        Due.is("n 0, k 1", x.meant(5, 5, 5, 0, 1), -1);
    }
}
