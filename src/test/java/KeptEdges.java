/** Edges that promises 45 to 48 name. */
final class KeptEdges {
    private KeptEdges() {
    }

    static void all() {
        Edge.test(45, "What undo() brings back is kept under a number 0 .. 1: true", KeptEdges::kept);
        Edge.test(45, "Refused: others", KeptEdges::otherNumbers);
        Edge.test(46, "It is as it was kept under a number", KeptEdges::asItWasKept);
        Edge.test(46, "Refused: nothing kept", KeptEdges::nothingKept);
        Edge.test(46, "THE PLAIN or WELLS told came since", KeptEdges::cameSince);
        Edge.test(47, "What 0: ROWS, 1: COLUMNS, 2: VILLAGES, 3: WELLS, 4: SEASON, 5: PARCHED, 6: WATER of all, 7: THIRST of all, "
            + "8: ANDS of all", KeptEdges::counts);
        Edge.test(47, "9: WELLS that are dry (bits)", KeptEdges::dryWells);
        Edge.test(47, "10: what was heard, 11: what can be undone, 12: numbers of the ROW, 13: signs of THE TEXT", KeptEdges::lastCounts);
        Edge.test(47, "NONE for another what", KeptEdges::otherCounts);
        Edge.test(48, "Number i of the ROW", KeptEdges::numbersOfTheRow);
        Edge.test(48, "NoSuchElementException: none such", KeptEdges::noSuchNumber);
    }

    private static void kept() {
        FullStopWells x = TermEdges.made();
        x.seasons(2);
        x.ands(0);
        Due.is("keep(0)", x.keep(0), true);
        x.says(8, 9, 0);
        x.repents(0);
        x.clears(0);
        Due.is("keep(1)", x.keep(1), true);
        Due.is("what can be undone", x.count(11), 5);
        x.seasons(30);
        String now = Seen.of(x);
        Due.is("again(0)", x.again(0), true);
        Due.is("WELLS", x.count(3), 2);
        Due.is("SEASON", x.count(4), 2);
        Due.is("PARCHED", x.count(5), 2);
        Due.is("WATER", x.count(6), 6);
        Due.is("ANDS", x.count(8), 1);
        Due.is("MEANT", x.well(0, 2), 1);
        Due.is("again(1)", x.again(1), true);
        Due.is("WELLS", x.count(3), 3);
        Due.is("WORDS", x.well(2, 1), 9);
        Due.is("ANDS", x.count(8), 0);
        Due.is("MEANT", x.well(0, 2), 0);
        x.seasons(30);
        Due.is("30 SEASONS on", Seen.of(x).split(" /")[1], now.split(" /")[1]);
        Due.is("keep(1) anew", x.keep(1), true);
        x.again(0);
        x.again(1);
        Due.is("SEASON", x.count(4), 32);
    }

    private static void otherNumbers() {
        int[] others = {-1, 2, TermEdges.LEAST, TermEdges.GREATEST};
        FullStopWells x = TermEdges.made();
        x.ands(0);
        for (int i : others) {
            Due.is("keep(" + i + ")", x.keep(i), false);
            Due.is("again(" + i + ")", x.again(i), false);
        }
        Due.is("again(0)", x.again(0), false);
        Due.is("again(1)", x.again(1), false);
        Due.is("what can be undone", x.count(11), 1);
    }

    private static void asItWasKept() {
        FullStopWells x = TermEdges.made();
        x.keep(0);
        x.seasons(4);
        Due.rule(x, "5");
        x.heard(0, 1);
        x.covers(0);
        x.sign(0);
        Due.is("again(0)", x.again(0), true);
        Due.is("SEASON", x.count(4), 0);
        Due.is("nothing can be undone", x.undo(), -1);
        // all else is as it is now
        Due.is("THE RULE", x.well(1, 6), 5);
        Due.is("what was heard", x.count(10), 1);
        Due.is("the ROW", Seen.row(x), "0 4 8");
        Due.is("THE TEXT", x.count(13), 4);
        x.says(0, 1, 1);
        Due.is("again(0) once more", x.again(0), true);
        Due.is("WELLS", x.count(3), 2);
        x.says(2, 3, 0);
        Due.is("a WELL said behind it is a new one", x.well(2, 4) + x.well(2, 3), 0);
    }

    private static void nothingKept() {
        FullStopWells x = TermEdges.made();
        Due.is("again(0)", x.again(0), false);
        Due.is("again(1)", x.again(1), false);
        x.keep(1);
        x.ands(0);
        Due.is("again(0)", x.again(0), false);
        Due.is("what can be undone", x.count(11), 1);
        Due.is("again(1)", x.again(1), true);
    }

    private static void cameSince() {
        FullStopWells x = TermEdges.made();
        x.keep(0);
        x.keep(1);
        Due.wells(x, "");
        Due.wells(x, "01");
        Due.plain(x, "33");
        Due.rule(x, "4");
        x.sheet(2, 2, 9, 0);
        x.years(1, 1);
        Due.is("these don't count", x.again(0) && x.again(1), true);
        Due.is("wells", Due.wells(x, "221."), 1);
        Due.is("again(0) behind wells", x.again(0), false);
        Due.is("again(1) behind wells", x.again(1), false);
        Due.is("WELLS", x.count(3), 3);
        x.keep(0);
        Due.is("again(0), kept since", x.again(0), true);
        Due.is("plain", Due.plain(x, TermEdges.PLAIN), 9);
        Due.is("again(0) behind plain", x.again(0), false);
        x.keep(1);
        x.says(0, 1, 1);
        Due.is("again(1), kept since", x.again(1), true);
        Due.is("WELLS", x.count(3), 0);
    }

    private static void counts() {
        FullStopWells x = Due.made("45" + "12345" + "....." + "....6" + ".....", "001.;011,;331.");
        int[] first = {4, 5, 6, 3, 0, 0, 0, 21, 0};
        for (int what = 0; what < first.length; what++) {
            Due.is("count(" + what + ")", x.count(what), first[what]);
        }
        x.ands(1);
        x.ands(1);
        x.ands(2);
        x.sheet(2, 3, 30, 1);
        Due.is("WATER of all", x.count(6), 93);
        Due.is("ANDS of all", x.count(8), 3);
        FullStopWells y = Due.made("66" + "666666" + "......".repeat(5), "001.;011.;021.;031.;041.;051.;101.;111.");
        y.sheet(2, 8, 99, 0);
        for (int i = 0; i < 72; i++) {
            y.ands(i / 9);
        }
        int[] most = {6, 6, 6, 8, 0, 0, 792, 36, 72};
        for (int what = 0; what < most.length; what++) {
            Due.is("the most of " + what, y.count(what), most[what]);
        }
    }

    private static void dryWells() {
        FullStopWells x = Due.made(TermEdges.BARE, TermEdges.EIGHT);
        Due.is("all", x.count(9), 255);
        x.sheet(2, 8, -6, 1);
        Due.is("all but the last", x.count(9), 127);
        x.sheet(2, 1, 1, 1);
        Due.is("all but the first", x.count(9), 254);
        x.sheet(2, 8, 1, 0);
        Due.is("none", x.count(9), 0);
        x.draws(3, 1);
        Due.is("the fourth", x.count(9), 8);
        Due.is("without WELLS", new FullStopWells().count(9), 0);
    }

    private static void lastCounts() {
        FullStopWells x = TermEdges.made();
        for (int what = 10; what <= 13; what++) {
            Due.is("count(" + what + ")", x.count(what), 0);
        }
        for (int i = 0; i < 13; i++) {
            x.heard(0, 1);
            x.ands(i % 2);
            x.sign(0);
        }
        Due.is("what was heard", x.count(10), 12);
        Due.is("what can be undone", x.count(11), 12);
        Due.is("numbers of the ROW", x.count(12), 0);
        Due.is("signs of THE TEXT", x.count(13), 52);
        x.covers(0);
        Due.is("numbers of the ROW", x.count(12), 3);
        FullStopWells y = Due.made("36" + ".".repeat(18), "001.;011.;021.;031.;041.;051.;151.;251.");
        y.route(0, 7, 1);
        Due.is("the most numbers of a ROW", y.count(12), 8);
        for (int i = 0; i < 20; i++) {
            y.sign(0);
        }
        Due.is("the most signs", y.count(13), 80);
    }

    private static void otherCounts() {
        int[] others = {-1, 14, 15, TermEdges.LEAST, TermEdges.GREATEST};
        for (int what : others) {
            Due.is("count(" + what + ")", TermEdges.made().count(what), -1);
        }
    }

    private static void numbersOfTheRow() {
        FullStopWells x = TermEdges.made();
        x.covers(0);
        Due.is("row(0)", x.row(0), 0);
        Due.is("row(1)", x.row(1), 4);
        Due.is("row(2)", x.row(2), 8);
        Due.is("row(2) once more", x.row(2), 8);
        x.balance();
        Due.is("row(0)", x.row(0), 7);
        Due.is("row(1)", x.row(1), 6);
        FullStopWells y = Due.made("36" + ".".repeat(18), "001.;011.;021.;031.;041.;051.;151.;251.");
        y.route(0, 7, 1);
        Due.is("row(7)", y.row(7), 7);
    }

    private static void noSuchNumber() {
        FullStopWells x = TermEdges.made();
        Due.throwsNoSuchElement("row(0) at first", () -> x.row(0));
        x.covers(0);
        int[] others = {3, -1, 8, TermEdges.LEAST, TermEdges.GREATEST};
        for (int i : others) {
            Due.throwsNoSuchElement("row(" + i + ")", () -> x.row(i));
        }
        x.balance();
        Due.throwsNoSuchElement("row(2) of a shorter one", () -> x.row(2));
        x.squares(0);
        Due.throwsNoSuchElement("row(0) of an empty one", () -> x.row(0));
        FullStopWells y = Due.made("36" + ".".repeat(18), "001.;011.;021.;031.;041.;051.;151.;251.");
        y.route(0, 7, 1);
        Due.throwsNoSuchElement("row(8) of the longest one", () -> y.row(8));
    }
}
