import java.util.function.ToIntFunction;

/** Edges that promises 10 to 17 name. */
final class SayingEdges {
    private SayingEdges() {
    }

    static void all() {
        seasons();
        says();
        andsAndClears();
        drawsAndRepents();
        year();
        undo();
    }

    private static void seasons() {
        Edge.test(10, "n SEASONS (0 .. 60)", SayingEdges::noneToSixty);
        Edge.test(10, "WATER of all together then", SayingEdges::waterThen);
        Edge.test(10, "the ROW: PARCHED more in these (as it grew)", SayingEdges::asItGrew);
        Edge.test(10, "how many WELLS are dry then", SayingEdges::dryThen);
        Edge.test(10, "Refused: another n", SayingEdges::otherSeasons);
    }

    private static void noneToSixty() {
        FullStopWells x = TermEdges.made();
        Due.row(x, "seasons(0)", x.seasons(0), 0, 0, 2);
        Due.is("SEASON", x.count(4), 0);
        Due.row(x, "seasons(1)", x.seasons(1), 3, 1, 1);
        Due.is("SEASON", x.count(4), 1);
        Due.row(x, "seasons(60)", x.seasons(60), 96, 60, 1);
        Due.is("SEASON", x.count(4), 61);
        Due.row(x, "seasons(0)", x.seasons(0), 96, 0, 1);
    }

    private static void waterThen() {
        FullStopWells x = Due.made(TermEdges.BARE, TermEdges.EIGHT);
        Due.rule(x, "9");
        Due.row(x, "seasons(11)", x.seasons(11), 792, 0, 0);
        Due.row(x, "no more than 99 each", x.seasons(1), 792, 0, 0);
        FullStopWells none = new FullStopWells();
        Due.row(none, "without WELLS", none.seasons(60), 0, 0, 0);
    }

    private static void asItGrew() {
        FullStopWells x = TermEdges.thirsty();
        Due.row(x, "seasons(60)", x.seasons(60), 0, 360, 0);
        Due.row(x, "these alone", x.seasons(1), 0, 6, 0);
        TermEdges.toTheMost(x);
        Due.row(x, "from 9999 on", x.seasons(60), 0, 0, 0);
        for (int i = 0; i < 3; i++) {
            x.undo();
        }
        Due.is("PARCHED ahead of the last ones", x.count(5), 9726);
        Due.row(x, "up to 9999", x.seasons(60), 0, 273, 0);
    }

    private static void dryThen() {
        FullStopWells x = Due.made("33" + "5........", "005.;011.;021.");
        Due.row(x, "one of three", x.seasons(1), 18, 0, 1);
        Due.rule(x, "0");
        Due.row(x, "of the same", x.seasons(1), 13, 0, 1);
        x.seasons(3);
        Due.row(x, "all of them", x.seasons(1), 0, 1, 3);
        FullStopWells none = new FullStopWells();
        Due.row(none, "without WELLS", none.seasons(1), 0, 0, 0);
    }

    private static void refuses(String call, int due, ToIntFunction<FullStopWells> run) {
        FullStopWells x = TermEdges.made();
        x.seasons(1);
        x.ands(0);
        String ahead = Seen.of(x);
        Due.is(call, run.applyAsInt(x), due);
        Due.is("all behind " + call, Seen.of(x), ahead);
        Due.is("the ROW behind " + call, Seen.row(x), "1 1");
    }

    private static void otherSeasons() {
        refuses("seasons(61)", -1, x -> x.seasons(61));
        refuses("seasons(-1)", -1, x -> x.seasons(-1));
        refuses("seasons of the most", -1, x -> x.seasons(TermEdges.GREATEST));
        refuses("seasons of the least", -1, x -> x.seasons(TermEdges.LEAST));
    }

    private static void says() {
        Edge.test(11, "A thing is said on a FIELD in w (1 .. 9) WORDS, MEANT (1) or not (0): the number of its WELL", SayingEdges::said);
        Edge.test(11, "-2: there is one", SayingEdges::saidOnAWell);
        Edge.test(11, "-3: there are 8", SayingEdges::saidANinth);
        Edge.test(11, "NONE: others", SayingEdges::otherSayings);
        Edge.test(11, "(these in that order, NONE first)", SayingEdges::inThatOrder);
    }

    private static void said() {
        FullStopWells x = new FullStopWells();
        int[][] all = {{0, 1, 1}, {8, 9, 0}, {4, 9, 1}, {5, 1, 0}};
        for (int i = 0; i < all.length; i++) {
            Due.is("says", x.says(all[i][0], all[i][1], all[i][2]), i);
            for (int what = 0; what < 3; what++) {
                Due.is("well(" + i + ", " + what + ")", x.well(i, what), all[i][what]);
            }
            Due.is("ANDS", x.well(i, 3), 0);
            Due.is("WATER", x.well(i, 4), 0);
        }
        FullStopWells y = Due.made(TermEdges.WIDE, "");
        Due.is("on the last FIELD", y.says(35, 5, 1), 0);
    }

    private static void saidOnAWell() {
        refuses("says(1, 1, 1)", -2, x -> x.says(1, 1, 1));
        refuses("says(7, 9, 0)", -2, x -> x.says(7, 9, 0));
    }

    private static void saidANinth() {
        FullStopWells x = Due.made(TermEdges.BARE, TermEdges.EIGHT.substring(0, 34));
        Due.is("the eighth", x.says(7, 1, 1), 7);
        String ahead = Seen.of(x);
        Due.is("a ninth", x.says(8, 1, 1), -3);
        Due.is("all", Seen.of(x), ahead);
        x.undo();
        Due.is("the eighth again", x.says(8, 1, 1), 7);
    }

    private static void otherSayings() {
        int[][] others = {{-1, 1, 1}, {9, 1, 1}, {0, 0, 1}, {0, 10, 1}, {0, 1, -1}, {0, 1, 2}, {TermEdges.LEAST, 1, 1}, {TermEdges.GREATEST, 1, 1},
            {0, TermEdges.LEAST, 1}, {0, TermEdges.GREATEST, 1}, {0, 1, TermEdges.LEAST}, {0, 1, TermEdges.GREATEST}};
        for (int[] one : others) {
            refuses("says(" + one[0] + ", " + one[1] + ", " + one[2] + ")", -1, x -> x.says(one[0], one[1], one[2]));
        }
    }

    private static void inThatOrder() {
        FullStopWells x = Due.made(TermEdges.BARE, TermEdges.EIGHT);
        Due.is("on one of eight", x.says(0, 1, 1), -2);
        Due.is("a ninth", x.says(8, 1, 1), -3);
        Due.is("on one of eight, in 10 WORDS", x.says(0, 10, 1), -1);
        Due.is("a ninth, in 0 WORDS", x.says(8, 0, 1), -1);
        Due.is("a ninth, meant 2", x.says(8, 1, 2), -1);
        Due.is("a ninth on no FIELD", x.says(9, 1, 1), -1);
        refuses("on one, in 10 WORDS", -1, y -> y.says(1, 10, 1));
        refuses("on one, meant 2", -1, y -> y.says(1, 1, 2));
    }

    private static void andsAndClears() {
        Edge.test(12, "An and is thrown in a WELL: ANDS", SayingEdges::anAnd);
        Edge.test(12, "-2: there are 9", SayingEdges::tenthAnd);
        Edge.test(12, "NONE: none such", () -> noSuchWells("ands", (x, well) -> x.ands(well)));
        Edge.test(13, "All ANDS of a WELL are taken out: how many there were", SayingEdges::allAndsTakenOut);
        Edge.test(13, "-2: there are none", SayingEdges::noAnds);
        Edge.test(13, "NONE: none such", () -> noSuchWells("clears", (x, well) -> x.clears(well)));
    }

    private interface OfAWell {
        int answer(FullStopWells x, int well);
    }

    private static void noSuchWells(String call, OfAWell of) {
        int[] wells = {2, -1, 7, 8, TermEdges.LEAST, TermEdges.GREATEST};
        for (int well : wells) {
            refuses(call + " of " + well, -1, x -> of.answer(x, well));
        }
        Due.is(call + " of none", of.answer(new FullStopWells(), 0), -1);
    }

    private static void anAnd() {
        FullStopWells x = TermEdges.made();
        Due.is("the first", x.ands(1), 1);
        Due.is("the second", x.ands(1), 2);
        Due.is("of the other", x.ands(0), 1);
        Due.is("ANDS", x.well(1, 3), 2);
    }

    private static void tenthAnd() {
        FullStopWells x = TermEdges.made();
        for (int i = 1; i <= 9; i++) {
            Due.is("ands", x.ands(0), i);
        }
        String ahead = Seen.of(x);
        Due.is("a tenth", x.ands(0), -2);
        Due.is("all", Seen.of(x), ahead);
        Due.is("of the other", x.ands(1), 1);
    }

    private static void allAndsTakenOut() {
        FullStopWells x = TermEdges.made();
        for (int i = 0; i < 9; i++) {
            x.ands(0);
        }
        x.ands(1);
        Due.is("nine", x.clears(0), 9);
        Due.is("ANDS", x.well(0, 3), 0);
        Due.is("of the other", x.well(1, 3), 1);
        Due.is("one", x.clears(1), 1);
    }

    private static void noAnds() {
        FullStopWells x = TermEdges.made();
        x.seasons(1);
        x.ands(1);
        String ahead = Seen.of(x);
        Due.is("none at first", x.clears(0), -2);
        Due.is("all", Seen.of(x), ahead);
        x.clears(1);
        Due.is("none any more", x.clears(1), -2);
    }

    private static void drawsAndRepents() {
        Edge.test(14, "n (1 .. 99) of WATER is drawn from a WELL: what is left", SayingEdges::drawn);
        Edge.test(14, "-2: there is not so much", SayingEdges::notSoMuch);
        Edge.test(14, "NONE: others", SayingEdges::otherDraws);
        Edge.test(15, "What was said at a WELL trails off, or is MEANT now: its DEPTH then", SayingEdges::repented);
        Edge.test(15, "NONE: none such", () -> noSuchWells("repents", (x, well) -> x.repents(well)));
    }

    private static void drawn() {
        FullStopWells x = TermEdges.made();
        x.sheet(2, 2, 99, 0);
        Due.is("1 of 99", x.draws(0, 1), 98);
        Due.is("99 of 99", x.draws(1, 99), 0);
        Due.is("98 of 98", x.draws(0, 98), 0);
    }

    private static void notSoMuch() {
        FullStopWells x = TermEdges.made();
        Due.is("1 of 0", x.draws(0, 1), -2);
        x.sheet(2, 2, 5, 50);
        Due.is("6 of 5", x.draws(0, 6), -2);
        Due.is("WATER", x.well(0, 4), 5);
        Due.is("99 of 55", x.draws(1, 99), -2);
        Due.is("nothing can be undone", x.count(11), 0);
        Due.is("5 of 5", x.draws(0, 5), 0);
    }

    private static void otherDraws() {
        int[][] others = {{0, 0}, {0, 100}, {0, -1}, {0, TermEdges.LEAST}, {0, TermEdges.GREATEST}, {0, -99}};
        for (int[] one : others) {
            refuses("draws(" + one[0] + ", " + one[1] + ")", -1, x -> x.draws(one[0], one[1]));
        }
        noSuchWells("draws", (x, well) -> x.draws(well, 1));
        noSuchWells("draws of too much", (x, well) -> x.draws(well, 100));
    }

    private static void repented() {
        FullStopWells x = Due.made(TermEdges.BARE, "001.;019.;021,;109,");
        int[] first = {1, 1, 9, 1};
        int[] second = {9, 1, 1, 1};
        for (int i = 0; i < 4; i++) {
            Due.is("the first time", x.repents(i), first[i]);
            Due.is("MEANT", x.well(i, 2), i < 2 ? 0 : 1);
            Due.is("the second time", x.repents(i), second[i]);
            Due.is("MEANT", x.well(i, 2), i < 2 ? 1 : 0);
        }
        Due.is("what can be undone", x.count(11), 8);
    }

    private static void year() {
        Edge.test(16, "THE TEXT tells A YEAR (an empty one: no ACTS)", SayingEdges::emptyYear);
        Edge.test(16, "ACTS one behind another, without signs between", SayingEdges::nothingBetween);
        Edge.test(16, "n and a digit (seasons())", () -> isDone("n0", 0, "n9", 0, "n", -2, "nx", -2, "n.", -2));
        Edge.test(16, "s, two digits (ROW, COLUMN), a digit (WORDS) and a full stop or a comma (says())", SayingEdges::sayingOfAYear);
        Edge.test(16, "a and a digit (ands())", () -> isDone("a0", 0, "a1a1", 0, "a", -2, "ax", -2, "a2", 1, "a9", 1));
        Edge.test(16, "c and a digit (clears())", () -> isDone("a1c1", 0, "c0", 1, "c", -2, "cx", -2, "c2", 1, "c9", 1));
        Edge.test(16, "d, a digit and a digit 1 .. 9 (draws())", SayingEdges::drawingOfAYear);
        Edge.test(16, "r and a digit (repents())", () -> isDone("r0", 0, "r1r1", 0, "r", -2, "rx", -2, "r2", 1, "r9", 1));
        Edge.test(16, "they are done one by one, till one can't be (it answers below 0", SayingEdges::tillOneCannotBe);
        Edge.test(16, "a FIELD that is not there, too)", SayingEdges::fieldThatIsNotThere);
        Edge.test(16, "how many were done; the ROW: 1 if one could not be, else 0; WATER of all together then", SayingEdges::howManyWereDone);
        Edge.test(16, "-1 - p: the sign at p can't stand there", SayingEdges::wrongSignsOfAYear);
        Edge.test(16, "(as wells(); 60 signs)", SayingEdges::sixtySigns);
        Edge.test(16, "nothing is done then", SayingEdges::nothingIsDoneThen);
    }

    /** Texts, each with 0 if all is done, 1 if its last ACT can't be, and below 0 if it can't stand. */
    private static void isDone(Object... due) {
        for (int i = 0; i < due.length; i += 2) {
            FullStopWells x = TermEdges.made();
            x.sheet(2, 2, 9, 0);
            int answer = Due.year(x, (String) due[i]);
            if ((Integer) due[i + 1] < 0) {
                Due.is("year of " + due[i], answer, (Integer) due[i + 1]);
            } else {
                Due.is("year of " + due[i] + " has a ROW", x.count(12), 2);
                Due.is("year of " + due[i] + ", one that can't be", x.row(0), (Integer) due[i + 1]);
            }
        }
    }

    private static void emptyYear() {
        FullStopWells x = TermEdges.made();
        x.sheet(2, 2, 4, 1);
        x.ands(0);
        String ahead = Seen.of(x);
        Due.row(x, "year of nothing", Due.year(x, ""), 0, 0, 9);
        Due.is("all", Seen.of(x), ahead);
    }

    private static void nothingBetween() {
        FullStopWells x = TermEdges.made();
        Due.row(x, "two", Due.year(x, "n1a0"), 2, 0, 3);
        Due.is("a space", Due.year(x, "n1 a0"), -3);
        Due.is("a ;", Due.year(x, "n1;a0"), -3);
        Due.is("a comma", Due.year(x, "s001,,a0"), -6);
        Due.is("a digit more", Due.year(x, "n10"), -3);
        Due.is("a digit ahead", Due.year(x, "1n1"), -1);
    }

    private static void sayingOfAYear() {
        isDone("s001.", 0, "s229,", 0, "s221.s209,", 0, "s000.", -4, "s00x.", -4, "s001;", -5, "s0011", -5, "sx01.", -2, "s0x1.", -3);
        isDone("s", -2, "s0", -3, "s00", -4, "s001", -5, "S001.", -1);
        FullStopWells x = TermEdges.made();
        Due.year(x, "s207,s025.");
        int[][] due = {{6, 7, 0}, {2, 5, 1}};
        for (int i = 0; i < 2; i++) {
            for (int what = 0; what < 3; what++) {
                Due.is("well(" + (2 + i) + ", " + what + ")", x.well(2 + i, what), due[i][what]);
            }
        }
    }

    private static void drawingOfAYear() {
        isDone("d01", 0, "d19", 0, "d09d09", 1, "d21", 1, "d91", 1, "d00", -3, "d0x", -3, "d0", -3, "d", -2, "dx1", -2, "d0.", -3);
        FullStopWells x = TermEdges.made();
        x.sheet(2, 2, 9, 20);
        Due.row(x, "9 of 9, 9 of 29", Due.year(x, "d09d19"), 2, 0, 20);
        Due.is("two digits are no number", Due.year(x, "d110"), -4);
    }

    private static void tillOneCannotBe() {
        FullStopWells x = TermEdges.made();
        Due.row(x, "none behind it is done", Due.year(x, "a0a1c1c1n9a0"), 3, 1, 0);
        Due.is("SEASON", x.count(4), 0);
        Due.is("ANDS", x.count(8), 1);
        Due.row(x, "the first one", Due.year(x, "c1a0"), 0, 1, 0);
        isDone("s011.", 1, "a1".repeat(9), 0, "a1".repeat(10), 1, "s001.s001,", 1, "s001.s021.s101.s111.s121.s201.", 0,
            "s001.s021.s101.s111.s121.s201.s221.", 1, "d01d09", 1, "c1", 1, "r2", 1);
    }

    private static void fieldThatIsNotThere() {
        isDone("s301.", 1, "s031.", 1, "s991.", 1, "s221.", 0, "s401.", 1, "s901.", 1, "s041.", 1, "s091.", 1);
        FullStopWells x = Due.made("36" + ".".repeat(18), "");
        Due.row(x, "COLUMN 5 of 6", Due.year(x, "s051."), 1, 0, 0);
        Due.row(x, "COLUMN 6 of 6: no FIELD of the next ROW", Due.year(x, "s061."), 0, 1, 0);
        Due.row(x, "ROW 3 of 3", Due.year(x, "s301."), 0, 1, 0);
        Due.is("WELLS", x.count(3), 1);
        FullStopWells y = Due.made("63" + ".".repeat(18), "");
        Due.row(y, "ROW 5 of 6", Due.year(y, "s501."), 1, 0, 0);
        Due.row(y, "ROW 6 of 6", Due.year(y, "s601."), 0, 1, 0);
    }

    private static void howManyWereDone() {
        FullStopWells x = TermEdges.made();
        Due.row(x, "one", Due.year(x, "n2"), 1, 0, 6);
        Due.row(x, "one of two", Due.year(x, "d01d09"), 1, 1, 5);
        Due.row(x, "n0 is done, too", Due.year(x, "n0n0"), 2, 0, 5);
        Due.row(x, "draws() that leaves 0 is done", Due.year(x, "d05"), 1, 0, 0);
        FullStopWells y = new FullStopWells();
        Due.row(y, "says() that answers 0 is done", Due.year(y, "s001."), 1, 0, 0);
        Due.row(y, "30 of them", Due.year(y, "r0".repeat(30)), 30, 0, 0);
        Due.is("MEANT", y.well(0, 2), 1);
        Due.row(y, "29 of them", Due.year(y, "r0".repeat(29)), 29, 0, 0);
        Due.is("MEANT", y.well(0, 2), 0);
    }

    private static void faultOfYear(String text, int due) {
        refuses("year of " + text, due, x -> Due.year(x, text));
    }

    private static void wrongSignsOfAYear() {
        String good = "n1s221.a0c0d01r0";
        String wrong = "x N.,-";
        for (int p = 0; p < good.length(); p++) {
            for (char sign : wrong.toCharArray()) {
                if (p != 6 || sign != '.' && sign != ',') {
                    faultOfYear(good.substring(0, p) + sign + good.substring(p + 1), -1 - p);
                }
            }
        }
        // its end, if it ends too early
        int[] early = {1, 3, 4, 5, 6, 8, 10, 12, 13, 15};
        for (int p : early) {
            faultOfYear(good.substring(0, p), -1 - p);
        }
    }

    private static void sixtySigns() {
        String sixty = "a0c0".repeat(15);
        FullStopWells x = TermEdges.made();
        Due.row(x, "60 signs", Due.year(x, sixty), 30, 0, 0);
        String[] more = {"n", "n1", "x", "1"};
        for (String one : more) {
            faultOfYear(sixty + one, -61);
            faultOfYear("s221." + "a0".repeat(27) + "n" + one, -61);
        }
    }

    private static void nothingIsDoneThen() {
        faultOfYear("n1n1n1x", -7);
        faultOfYear("a0".repeat(30) + "a0", -61);
        faultOfYear("s001.s", -7);
        faultOfYear("a0c0d0", -7);
    }

    private static void undo() {
        Edge.test(17, "The latest seasons(), says(), ands(), clears(), draws(), repents(), year()", SayingEdges::theLatest);
        Edge.test(17, "(of 12 that are kept, the latest ones", SayingEdges::twelve);
        Edge.test(17, "such as were done", SayingEdges::suchAsWereDone);
        Edge.test(17, "seasons() of 1 and more, year() of which one ACT was done, as one)", SayingEdges::ofOneAndMore);
        Edge.test(17, "is undone (all WELLS, how many there are, SEASON, PARCHED are as ahead of it)", SayingEdges::asAheadOfIt);
        Edge.test(17, "how many are left that can be", SayingEdges::howManyAreLeft);
        Edge.test(17, "Refused: none", SayingEdges::nothingToUndo);
        Edge.test(17, "(plain(), wells() and again() forget them", SayingEdges::theseForgetThem);
        Edge.test(17, "if they are not refused", SayingEdges::notIfTheyAreRefused);
        Edge.test(17, "an empty wells() does not.)", SayingEdges::emptyWellsDoesNot);
    }

    private static void isUndone(String call, ToIntFunction<FullStopWells> run) {
        FullStopWells x = TermEdges.made();
        x.seasons(2);
        x.ands(0);
        String ahead = Seen.of(x);
        Due.is(call + " is done", run.applyAsInt(x) >= 0, true);
        Due.is("what can be undone behind " + call, x.count(11), 3);
        Due.is("undo() behind " + call, x.undo(), 2);
        Due.is("all behind undo() of " + call, Seen.of(x), ahead);
    }

    private static void theLatest() {
        isUndone("seasons", x -> x.seasons(3));
        isUndone("says", x -> x.says(0, 1, 1));
        isUndone("ands", x -> x.ands(1));
        isUndone("draws of all that there is", x -> x.draws(0, 6));
        FullStopWells y = new FullStopWells();
        Due.is("says() that answers 0", y.says(3, 1, 1), 0);
        Due.is("undo()", y.undo(), 0);
        Due.is("WELLS", y.count(3), 0);
        isUndone("clears", x -> x.clears(0));
        isUndone("draws", x -> x.draws(0, 1));
        isUndone("repents", x -> x.repents(0));
        isUndone("year", x -> Due.year(x, "n1s009,a1c0d01r0"));
    }

    private static void twelve() {
        FullStopWells x = TermEdges.made();
        for (int i = 1; i <= 15; i++) {
            x.seasons(1);
            Due.is("what can be undone", x.count(11), i < 12 ? i : 12);
        }
        for (int i = 11; i >= 0; i--) {
            Due.is("undo()", x.undo(), i);
            Due.is("SEASON", x.count(4), 3 + i);
        }
        Due.is("undo() of a thirteenth", x.undo(), -1);
        Due.is("SEASON", x.count(4), 3);
        x.ands(1);
        Due.is("it begins anew", x.count(11), 1);
    }

    private static void suchAsWereDone() {
        FullStopWells x = Due.made(TermEdges.BARE, TermEdges.EIGHT);
        x.seasons(-1);
        x.says(0, 1, 1);
        x.says(8, 1, 1);
        x.says(8, 0, 1);
        x.ands(8);
        x.clears(0);
        x.draws(0, 1);
        x.repents(8);
        Due.year(x, "c0");
        Due.year(x, "n");
        Due.is("what can be undone", x.count(11), 0);
        for (int i = 0; i < 10; i++) {
            x.ands(0);
        }
        Due.is("nine of ten ands", x.count(11), 9);
    }

    private static void ofOneAndMore() {
        FullStopWells x = TermEdges.made();
        x.seasons(0);
        Due.is("seasons(0)", x.count(11), 0);
        x.seasons(1);
        Due.is("seasons(1)", x.count(11), 1);
        x.seasons(60);
        Due.is("seasons(60), as one", x.count(11), 2);
        Due.year(x, "");
        Due.year(x, "c0");
        Due.is("year() of no ACT done", x.count(11), 2);
        Due.year(x, "a0");
        Due.is("year() of one", x.count(11), 3);
        Due.year(x, "a0c1");
        Due.is("year() of one of two", x.count(11), 4);
        Due.year(x, "a0".repeat(7));
        Due.is("year() of seven, as one", x.count(11), 5);
        Due.is("undo()", x.undo(), 4);
        Due.is("ANDS", x.count(8), 2);
    }

    private static void asAheadOfIt() {
        FullStopWells x = TermEdges.made();
        x.ands(0);
        x.seasons(3);
        String ahead = Seen.of(x);
        Due.is("year", Due.year(x, "s229.n9r0r1c0a1"), 6);
        x.undo();
        Due.is("all", Seen.of(x), ahead);
        Due.is("WELLS", x.count(3), 2);
        Due.is("SEASON", x.count(4), 3);
        Due.is("PARCHED", x.count(5), 3);
        Due.is("undo()", x.undo(), 1);
        Due.is("SEASON", x.count(4), 0);
        Due.is("PARCHED", x.count(5), 0);
        Due.is("WATER", x.count(6), 0);
        // all else is as it is now: THE RULE, what was heard, what is kept, the ROW
        x.ands(0);
        Due.rule(x, "5");
        x.heard(0, 5);
        x.keep(0);
        x.covers(0);
        x.undo();
        Due.is("THE RULE", x.well(1, 6), 5);
        Due.is("what was heard", x.count(10), 1);
        Due.is("the ROW", Seen.row(x), "0 4 8");
        x.again(0);
        Due.is("what is kept", x.well(0, 3), 2);
    }

    private static void howManyAreLeft() {
        FullStopWells x = TermEdges.made();
        x.ands(0);
        x.ands(0);
        x.ands(1);
        Due.is("undo()", x.undo(), 2);
        Due.is("undo()", x.undo(), 1);
        x.repents(0);
        Due.is("undo()", x.undo(), 1);
        Due.is("undo()", x.undo(), 0);
        Due.is("ANDS", x.count(8), 0);
    }

    private static void nothingToUndo() {
        FullStopWells x = TermEdges.made();
        Due.is("undo() at first", x.undo(), -1);
        x.ands(0);
        x.undo();
        String ahead = Seen.of(x);
        Due.is("undo() of no more", x.undo(), -1);
        Due.is("all", Seen.of(x), ahead);
    }

    private static void forgets(String call, int due, ToIntFunction<FullStopWells> run) {
        FullStopWells x = TermEdges.made();
        x.keep(0);
        x.ands(0);
        x.ands(0);
        run.applyAsInt(x);
        Due.is("what can be undone behind " + call, x.count(11), due);
        Due.is("undo() behind " + call, x.undo(), due - 1);
    }

    private static void theseForgetThem() {
        forgets("plain", 0, x -> Due.plain(x, TermEdges.PLAIN));
        forgets("wells", 0, x -> Due.wells(x, "221."));
        forgets("again", 0, x -> x.again(0) ? 1 : 0);
        forgets("keep", 2, x -> x.keep(1) ? 1 : 0);
        forgets("rule", 2, x -> Due.rule(x, "w"));
        forgets("sheet", 2, x -> x.sheet(2, 2, 5, 5));
        forgets("years", 2, x -> x.years(1, 60));
    }

    private static void notIfTheyAreRefused() {
        forgets("plain", 2, x -> Due.plain(x, "3"));
        forgets("wells", 2, x -> Due.wells(x, "221.;"));
        forgets("wells", 2, x -> Due.wells(x, "x"));
        forgets("again", 2, x -> x.again(1) ? 1 : 0);
        forgets("again", 2, x -> x.again(2) ? 1 : 0);
    }

    private static void emptyWellsDoesNot() {
        forgets("wells of nothing", 2, x -> Due.wells(x, ""));
    }
}
