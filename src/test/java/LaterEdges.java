/** Edges that promises 18 to 28 name. */
final class LaterEdges {
    private LaterEdges() {
    }

    static void all() {
        later();
        parched();
        drinks();
        rises();
        richest();
        balance();
        covers();
        best();
        longest();
        dearest();
        bears();
    }

    /** One village of thirst 1 on the well, which has so much water and no flow. */
    private static FullStopWells drop(int water) {
        FullStopWells x = Due.made("33" + "1........", "001.");
        Due.rule(x, "0");
        x.sheet(2, 1, water, 0);
        return x;
    }

    private interface Asked {
        int answer(FullStopWells x, int[] of);
    }

    /** A call that answers NONE leaves the ROW of the villages' own fields, and all else. */
    private static void isNone(String call, Asked asked, int[]... others) {
        for (int[] one : others) {
            FullStopWells x = TermEdges.made();
            x.covers(0);
            String ahead = Seen.of(x);
            StringBuilder told = new StringBuilder(call);
            for (int i : one) {
                told.append(' ').append(i);
            }
            Due.is(told.toString(), asked.answer(x, one), -1);
            Due.is("the ROW behind " + told, Seen.row(x), "0 4 8");
            Due.is("all behind " + told, Seen.of(x), ahead);
        }
    }

    private static void later() {
        Edge.test(18, "WATER of a WELL in n SEASONS (0 .. 99), nothing being done: it", LaterEdges::waterLater);
        Edge.test(18, "the ROW: WATER of all together, PARCHED more then", LaterEdges::rowOfLater);
        Edge.test(18, "NONE: others", () -> isNone("later", (x, of) -> x.later(of[0], of[1]),
            new int[][] {{2, 1}, {-1, 1}, {8, 1}, {TermEdges.LEAST, 1}, {TermEdges.GREATEST, 1}, {0, -1}, {0, 100}, {0, TermEdges.LEAST},
                {1, TermEdges.GREATEST}}));
    }

    private static void waterLater() {
        FullStopWells x = TermEdges.made();
        x.sheet(2, 2, 5, 2);
        Due.is("now", x.later(0, 0), 5);
        Due.is("now", x.later(1, 0), 7);
        Due.is("behind one", x.later(0, 1), 8);
        Due.is("behind 99", drop(99).later(0, 99), 0);
        Due.is("behind 98", drop(99).later(0, 98), 1);
        Due.is("SEASON", x.count(4), 0);
        FullStopWells y = Due.made(TermEdges.BARE, "001.;019.");
        Due.is("the most", y.later(0, 11), 99);
        Due.is("the most", y.later(0, 99), 99);
        Due.is("one each time", y.later(1, 99), 99);
        Due.is("one each time", y.later(1, 98), 98);
    }

    private static void rowOfLater() {
        FullStopWells x = TermEdges.made();
        Due.row(x, "later(1, 0)", x.later(1, 0), 0, 0, 0);
        Due.row(x, "later(1, 2)", x.later(1, 2), 0, 6, 2);
        x.seasons(5);
        Due.row(x, "what was PARCHED ahead is not told", x.later(1, 2), 0, 21, 2);
        Due.row(x, "later(1, 99)", x.later(1, 99), 0, 96, 99);
        FullStopWells y = TermEdges.thirsty();
        y.says(0, 9, 1);
        Due.rule(y, "0");
        TermEdges.toTheMost(y);
        Due.row(y, "PARCHED can be no more", y.later(0, 99), 0, 0, 0);
    }

    private static void parched() {
        Edge.test(19, "In how many SEASONS (1 .. 99) a VILLAGE draws less than its THIRST first, nothing being done: how many",
            LaterEdges::firstParched);
        Edge.test(19, "the ROW: in how many of the 99 it does", LaterEdges::howOftenParched);
        Edge.test(19, "-2: in none", LaterEdges::neverParched);
        Edge.test(19, "NONE: none such", () -> isNone("parched", (x, of) -> x.parched(of[0]),
            new int[][] {{3}, {-1}, {6}, {TermEdges.LEAST}, {TermEdges.GREATEST}}));
    }

    private static void firstParched() {
        for (int water = 0; water <= 98; water += 14) {
            Due.is("of WATER " + water, drop(water).parched(0), water + 1);
        }
        FullStopWells x = TermEdges.thirsty();
        TermEdges.toTheMost(x);
        Due.row(x, "though PARCHED can be no more", x.parched(5), 1, 99);
        FullStopWells y = Due.made("33" + "4........", "001.");
        Due.rule(y, "0");
        y.sheet(2, 1, 7, 0);
        Due.row(y, "3 of 4 is less", y.parched(0), 2, 98);
        y.sheet(2, 1, 8, 0);
        Due.row(y, "4 of 4 is not", y.parched(0), 3, 97);
    }

    private static void howOftenParched() {
        Due.answers(drop(0), y -> y.parched(0), 1, 99);
        Due.answers(drop(50), y -> y.parched(0), 51, 49);
        Due.answers(drop(98), y -> y.parched(0), 99, 1);
        FullStopWells x = Due.made("33" + "2........", "001.");
        // flow of 8 in each fourth SEASON, from the fourth on, is 2 for four of them: but the first three
        Due.rule(x, "(n=3)*8");
        Due.row(x, "parched(0)", x.parched(0), 1, 3);
        Due.rule(x, "(n=0)*2");
        Due.row(x, "parched(0)", x.parched(0), 2, 74);
    }

    private static void neverParched() {
        FullStopWells x = drop(99);
        x.covers(0);
        Due.row(x, "of WATER 99", x.parched(0), -2, 0);
        FullStopWells y = TermEdges.made();
        Due.is("of FLOW 6", y.parched(0), -2);
    }

    private static void drinks() {
        Edge.test(20, "What a VILLAGE draws in the SEASON n (1: this one .. 99) from now, nothing being done: how much", LaterEdges::drunk);
        Edge.test(20, "the ROW: the WELL (-1: none)", LaterEdges::drunkFrom);
        Edge.test(20, "NONE: others", () -> isNone("drinks", (x, of) -> x.drinks(of[0], of[1]),
            new int[][] {{3, 1}, {-1, 1}, {6, 1}, {TermEdges.LEAST, 1}, {TermEdges.GREATEST, 1}, {0, 0}, {0, -1}, {0, 100}, {0, TermEdges.LEAST},
                {2, TermEdges.GREATEST}}));
    }

    private static void drunk() {
        FullStopWells x = drop(98);
        Due.row(x, "in the first", x.drinks(0, 1), 1, 0);
        Due.row(x, "in the 98th", x.drinks(0, 98), 1, 0);
        Due.row(x, "in the 99th", x.drinks(0, 99), 0, -1);
        Due.answers(drop(1), z -> z.drinks(0, 2), 0, -1);
        FullStopWells y = Due.made("33" + "5........", "001.");
        Due.rule(y, "0");
        y.sheet(2, 1, 12, 0);
        int[] due = {5, 5, 2, 0};
        for (int n = 1; n <= 4; n++) {
            Due.is("in the SEASON " + n, y.drinks(0, n), due[n - 1]);
        }
    }

    private static void drunkFrom() {
        FullStopWells x = Due.made("33" + "1........", "001.;011.;021.");
        Due.rule(x, "0");
        x.sheet(2, 3, 1, 1);
        int[] due = {0, 1, 1, 2, 2, 2, -1};
        for (int n = 1; n <= 7; n++) {
            Due.row(x, "drinks(0, " + n + ")", x.drinks(0, n), due[n - 1] < 0 ? 0 : 1, due[n - 1]);
        }
        FullStopWells y = Due.made("33" + "1........", "");
        Due.row(y, "without WELLS", y.drinks(0, 1), 0, -1);
    }

    private static void rises() {
        Edge.test(21, "Behind how many SEASONS (0: now .. 99)", LaterEdges::risesBehind);
        Edge.test(21, "a WELL has WATER v (0 .. 99) or more first, nothing being done: how many", LaterEdges::risesTo);
        Edge.test(21, "the ROW: WATER then", LaterEdges::waterThen);
        Edge.test(21, "-2: behind none", LaterEdges::risesNever);
        Edge.test(21, "NONE: others", () -> isNone("rises", (x, of) -> x.rises(of[0], of[1]),
            new int[][] {{2, 1}, {-1, 1}, {8, 1}, {TermEdges.LEAST, 1}, {TermEdges.GREATEST, 1}, {0, -1}, {0, 100}, {0, TermEdges.LEAST},
                {1, TermEdges.GREATEST}}));
    }

    private static FullStopWells rising(String rule) {
        FullStopWells x = Due.made(TermEdges.BARE, "001.");
        Due.rule(x, rule);
        return x;
    }

    private static void risesBehind() {
        Due.answers(rising("1"), x -> x.rises(0, 0), 0, 0);
        Due.answers(rising("1"), x -> x.rises(0, 1), 1, 1);
        Due.answers(rising("1"), x -> x.rises(0, 98), 98, 98);
        Due.answers(rising("1"), x -> x.rises(0, 99), 99, 99);
        // three in four SEASONS: 74 behind 99, 75 behind 100
        Due.answers(rising("n>0"), x -> x.rises(0, 74), 99, 74);
        Due.is("behind 100", rising("n>0").rises(0, 75), -2);
    }

    private static void risesTo() {
        FullStopWells x = rising("9");
        x.sheet(2, 1, 50, 0);
        Due.row(x, "less than there is", x.rises(0, 49), 0, 50);
        Due.row(x, "as there is", x.rises(0, 50), 0, 50);
        Due.row(x, "more than there is", x.rises(0, 51), 1, 59);
        Due.row(x, "as there will be", x.rises(0, 59), 1, 59);
        Due.row(x, "0", x.rises(0, 0), 0, 50);
        Due.row(x, "99", x.rises(0, 99), 6, 99);
    }

    private static void waterThen() {
        FullStopWells x = rising("7");
        Due.row(x, "more than v", x.rises(0, 8), 2, 14);
        Due.row(x, "the most", x.rises(0, 99), 15, 99);
    }

    private static void risesNever() {
        FullStopWells x = rising("0");
        x.covers(0);
        Due.row(x, "rises(0, 1)", x.rises(0, 1), -2);
        FullStopWells y = TermEdges.made();
        Due.row(y, "up to 96, as 3 are drawn", y.rises(0, 96), 32, 96);
        Due.is("not to 97", y.rises(0, 97), -2);
    }

    private static void richest() {
        Edge.test(22, "The WELL that has the most WATER behind n SEASONS (0 .. 99), nothing being done", LaterEdges::richestBehind);
        Edge.test(22, "of equal ones the first: it", LaterEdges::richestOfEqualOnes);
        Edge.test(22, "the ROW: how much, how many are dry then", LaterEdges::rowOfRichest);
        Edge.test(22, "-2: there are no WELLS", LaterEdges::richestOfNone);
        Edge.test(22, "NONE: another n", () -> isNone("richest", (x, of) -> x.richest(of[0]),
            new int[][] {{-1}, {100}, {TermEdges.LEAST}, {TermEdges.GREATEST}}));
    }

    private static void richestBehind() {
        FullStopWells x = Due.made(TermEdges.BARE, "009.;015.");
        x.sheet(2, 2, 90, -79);
        Due.row(x, "now", x.richest(0), 0, 90, 0);
        // 1 and 5 a SEASON
        Due.row(x, "behind 9", x.richest(9), 0, 99, 0);
        Due.row(x, "behind 99", x.richest(99), 0, 99, 0);
        x.sheet(2, 2, 20, -20);
        Due.row(x, "behind 5", x.richest(5), 0, 25, 0);
        Due.row(x, "behind 6", x.richest(6), 1, 30, 0);
        Due.row(x, "behind 78", x.richest(78), 1, 99, 0);
        Due.row(x, "behind 79", x.richest(79), 0, 99, 0);
        Due.row(x, "behind 99", x.richest(99), 0, 99, 0);
        FullStopWells y = drop(99);
        Due.row(y, "behind 98", y.richest(98), 0, 1, 0);
        Due.row(y, "behind 99", y.richest(99), 0, 0, 1);
    }

    private static void richestOfEqualOnes() {
        FullStopWells x = Due.made(TermEdges.BARE, "001.;011.;021.");
        Due.row(x, "all dry", x.richest(0), 0, 0, 3);
        x.sheet(2, 3, 0, 5);
        x.draws(2, 5);
        Due.row(x, "the last two", x.richest(0), 1, 5, 1);
        x.sheet(2, 3, 99, 1);
        Due.row(x, "all of them", x.richest(99), 0, 99, 0);
        FullStopWells y = Due.made(TermEdges.BARE, TermEdges.EIGHT);
        y.sheet(2, 8, 1, 1);
        Due.row(y, "the last of eight", y.richest(0), 7, 8, 0);
        y.sheet(2, 8, 8, -1);
        Due.row(y, "the first of eight", y.richest(0), 0, 8, 0);
    }

    private static void rowOfRichest() {
        FullStopWells x = TermEdges.made();
        Due.row(x, "now", x.richest(0), 0, 0, 2);
        Due.row(x, "behind one", x.richest(1), 0, 3, 1);
        x.sheet(2, 2, 0, 9);
        Due.row(x, "now", x.richest(0), 1, 9, 1);
    }

    private static void richestOfNone() {
        FullStopWells x = Due.made(TermEdges.PLAIN, "");
        x.covers(0);
        Due.row(x, "richest(0)", x.richest(0), -2, 0, 4, 8);
        Due.row(x, "richest(99)", x.richest(99), -2, 0, 4, 8);
        Due.row(x, "richest(100)", x.richest(100), -1, 0, 4, 8);
    }

    private static void balance() {
        Edge.test(23, "FLOW of all WELLS together now, less THIRST of all VILLAGES", LaterEdges::flowLessThirst);
        Edge.test(23, "(below 0, too), and 1000", LaterEdges::belowAThousand);
        Edge.test(23, "the ROW: the first, the second", LaterEdges::rowOfBalance);
    }

    private static void flowLessThirst() {
        FullStopWells x = TermEdges.made();
        Due.is("7 less 6", x.balance(), 1001);
        x.ands(1);
        Due.is("FLOW 0 is no less than 0", x.balance(), 1000);
        x.ands(1);
        Due.is("FLOW 0 is no less than 0", x.balance(), 1000);
        Due.rule(x, "n");
        Due.is("0 less 6", x.balance(), 994);
        x.seasons(3);
        Due.is("now: 6 less 6", x.balance(), 1000);
    }

    private static void belowAThousand() {
        FullStopWells x = Due.made("33" + "666" + "666" + "...", "");
        Due.row(x, "the least", x.balance(), 964, 0, 36);
        FullStopWells y = Due.made(TermEdges.BARE, TermEdges.EIGHT);
        Due.row(y, "the most", y.balance(), 1072, 72, 0);
        FullStopWells none = new FullStopWells();
        Due.row(none, "nothing", none.balance(), 1000, 0, 0);
    }

    private static void rowOfBalance() {
        FullStopWells x = TermEdges.made();
        Due.row(x, "balance()", x.balance(), 1001, 7, 6);
        x.says(0, 1, 1);
        Due.row(x, "balance()", x.balance(), 1010, 16, 6);
    }

    private static void covers() {
        Edge.test(24, "The fewest FIELDS (with a WELL or not)", LaterEdges::withAWellOrNot);
        Edge.test(24, "so that each VILLAGE is FAR v (0 .. 10) or less from one of them: how many", LaterEdges::coversOfEachV);
        Edge.test(24, "the ROW: they, rising (of as few the least row)", LaterEdges::leastCover);
        Edge.test(24, "NONE: another v", () -> isNone("covers", (x, of) -> x.covers(of[0]),
            new int[][] {{-1}, {11}, {TermEdges.LEAST}, {TermEdges.GREATEST}}));
    }

    private static void withAWellOrNot() {
        FullStopWells x = Due.made(TermEdges.PLAIN, "001.;221,");
        Due.row(x, "covers(0)", x.covers(0), 3, 0, 4, 8);
        FullStopWells y = Due.made(TermEdges.PLAIN, "");
        Due.row(y, "covers(0)", y.covers(0), 3, 0, 4, 8);
        FullStopWells none = new FullStopWells();
        Due.row(none, "covers(0) of no VILLAGES", none.covers(0), 0);
        Due.row(none, "covers(10) of no VILLAGES", none.covers(10), 0);
    }

    private static void coversOfEachV() {
        FullStopWells x = Due.made("66" + "1....1" + "......" + "..1..." + "...1.." + "......" + "1....1", "");
        int[] due = {6, 5, 4, 2, 2, 2, 1, 1, 1, 1, 1};
        for (int v = 0; v <= 10; v++) {
            Due.is("covers(" + v + ")", x.covers(v), due[v]);
        }
        for (int v = 10; v >= 0; v--) {
            Due.is("covers(" + v + ") behind greater ones", x.covers(v), due[v]);
        }
        FullStopWells y = Due.made("66" + "1....." + "......".repeat(4) + ".....1", "");
        Due.row(y, "covers(4)", y.covers(4), 2, 0, 11);
        Due.row(y, "covers(5)", y.covers(5), 1, 5);
        Due.row(y, "covers(9)", y.covers(9), 1, 1);
        Due.row(y, "covers(10)", y.covers(10), 1, 0);
    }

    private static void leastCover() {
        FullStopWells x = Due.made("33" + "..." + "..1" + "1.1", "");
        Due.row(x, "covers(1)", x.covers(1), 2, 2, 7);
        FullStopWells y = Due.made("33" + "1.1" + ".1." + "1.1", "");
        Due.row(y, "covers(0)", y.covers(0), 5, 0, 2, 4, 6, 8);
        FullStopWells z = Due.made("33" + "111" + "..." + ".11", "");
        Due.row(z, "covers(0) of those side by side", z.covers(0), 5, 0, 1, 2, 7, 8);
        Due.row(y, "covers(1)", y.covers(1), 2, 1, 7);
        Due.row(y, "covers(2)", y.covers(2), 1, 4);
        Due.row(y, "covers(3)", y.covers(3), 1, 1);
        Due.row(y, "covers(4)", y.covers(4), 1, 0);
    }

    private static void best() {
        Edge.test(25, "The FIELD without a WELL where a thing is to be said now (w WORDS, MEANT)", LaterEdges::bestField);
        Edge.test(25, "so that the fewest are PARCHED more in n SEASONS (1 .. 30), nothing else being done", LaterEdges::bestInSeasons);
        Edge.test(25, "of equal ones the first: it", LaterEdges::bestOfEqualOnes);
        Edge.test(25, "the ROW: how many are", LaterEdges::howManyAreParched);
        Edge.test(25, "-2: there are 8 WELLS", LaterEdges::bestOfEight);
        Edge.test(25, "NONE: others", () -> isNone("best", (x, of) -> x.best(of[0], of[1]),
            new int[][] {{0, 1}, {10, 1}, {TermEdges.LEAST, 1}, {TermEdges.GREATEST, 1}, {1, 0}, {1, 31}, {1, -1}, {1, TermEdges.LEAST},
                {1, TermEdges.GREATEST}, {0, 0}}));
    }

    private static void bestField() {
        FullStopWells x = TermEdges.made();
        Due.row(x, "in 7 WORDS, for the third", x.best(7, 1), 8, 0);
        Due.row(x, "in 1", x.best(1, 1), 8, 0);
        Due.row(x, "in 8: 2 are too few for the third", x.best(8, 1), 0, 1);
        Due.row(x, "in 9: 1 is too few for the first, too, on its FIELD", x.best(9, 1), 2, 1);
        FullStopWells y = Due.made("33" + "6........", TermEdges.EIGHT.substring(0, 34));
        Due.rule(y, "0");
        Due.row(y, "the first of two without a WELL", y.best(5, 1), 7, 1);
        // wherever it is, one draws from it and has too little
        FullStopWells w = Due.made("33" + "2.2" + "2.2" + "2.2", "011.;111.;211.");
        Due.row(w, "on each FIELD one is PARCHED", w.best(9, 1), 0, 1);
        Due.row(w, "in 8 WORDS there is enough", w.best(8, 1), 0, 0);
        // if it were not MEANT, it would have no FLOW
        FullStopWells z = Due.made("33" + "....6....", "");
        Due.rule(z, "m*6");
        Due.row(z, "MEANT", z.best(9, 30), 0, 0);
    }

    private static void bestInSeasons() {
        FullStopWells x = drop(29);
        Due.row(x, "in 29", x.best(1, 29), 1, 0);
        Due.row(x, "in 30", x.best(1, 30), 1, 1);
        Due.row(x, "in 1", x.best(9, 1), 1, 0);
        Due.answers(drop(0), y -> y.best(9, 1), 1, 1);
        Due.answers(drop(0), y -> y.best(9, 2), 1, 2);
        // a WELL has FLOW only if it is FAR 2 or less from the VILLAGE
        FullStopWells z = Due.made("33" + "1........", "");
        Due.rule(z, "v");
        Due.row(z, "FIELDS behind it are worse", z.best(1, 1), 0, 0);
        FullStopWells w = Due.made("33" + "........1", "");
        Due.rule(w, "v");
        Due.row(w, "FIELDS ahead of it are worse", w.best(1, 1), 2, 0);
    }

    private static void bestOfEqualOnes() {
        FullStopWells x = new FullStopWells();
        Due.row(x, "of all", x.best(5, 30), 0, 0);
        x.says(0, 1, 1);
        x.says(1, 1, 1);
        Due.row(x, "of all but two", x.best(5, 30), 2, 0);
    }

    private static void howManyAreParched() {
        FullStopWells x = TermEdges.thirsty();
        Due.rule(x, "0");
        Due.row(x, "all of six, twice", x.best(1, 2), 0, 12);
        Due.row(x, "the most", x.best(1, 30), 0, 180);
        Due.rule(x, "5");
        Due.row(x, "one of six", x.best(1, 1), 0, 1);
        x.seasons(60);
        Due.row(x, "those ahead are not told", x.best(1, 1), 0, 1);
    }

    private static void bestOfEight() {
        FullStopWells x = Due.made("33" + "1........", TermEdges.EIGHT);
        x.covers(0);
        Due.row(x, "best(1, 1)", x.best(1, 1), -2, 0);
        Due.row(x, "best(9, 30)", x.best(9, 30), -2, 0);
        Due.row(x, "best(10, 1)", x.best(10, 1), -1, 0);
        FullStopWells y = Due.made("33" + "1........", TermEdges.EIGHT.substring(0, 34));
        Due.row(y, "of seven", y.best(1, 1), 7, 0);
    }

    private static void longest() {
        Edge.test(26, "The most WORDS (1 .. 9) in which a thing, MEANT, can be said on a FIELD now", LaterEdges::longestWords);
        Edge.test(26, "so that a VILLAGE is never PARCHED in the next n SEASONS (1 .. 30), nothing else being done: how many",
            LaterEdges::longestInSeasons);
        Edge.test(26, "the ROW: WATER of that WELL then", LaterEdges::waterOfLongest);
        Edge.test(26, "-2: in none", LaterEdges::longestInNone);
        Edge.test(26, "-3: there is a WELL on it, or there are 8", LaterEdges::longestOnAWell);
        Edge.test(26, "NONE: others", () -> isNone("longest", (x, of) -> x.longest(of[0], of[1], of[2]),
            new int[][] {{-1, 0, 1}, {9, 0, 1}, {TermEdges.LEAST, 0, 1}, {TermEdges.GREATEST, 0, 1}, {0, 3, 1}, {0, -1, 1}, {0, TermEdges.LEAST, 1},
                {0, TermEdges.GREATEST, 1}, {0, 0, 0}, {0, 0, 31}, {0, 0, -1}, {0, 0, TermEdges.LEAST}, {0, 0, TermEdges.GREATEST}, {1, 3, 1},
                {1, 0, 31}}));
    }

    private static FullStopWells thirstOf(int thirst, String rule) {
        FullStopWells x = Due.made("33" + thirst + "........", "");
        Due.rule(x, rule);
        return x;
    }

    private static void longestWords() {
        for (int thirst = 1; thirst <= 6; thirst++) {
            Due.answers(thirstOf(thirst, ""), x -> x.longest(0, 0, 1), 10 - thirst, 0);
        }
        Due.answers(thirstOf(6, "6"), x -> x.longest(8, 0, 30), 9, 0);
        Due.answers(thirstOf(6, "(w=1)*6"), x -> x.longest(8, 0, 30), 1, 0);
        Due.answers(thirstOf(6, "(w=5)*6+(w=2)*6"), x -> x.longest(8, 0, 30), 5, 0);
        Due.answers(thirstOf(6, "m*6"), x -> x.longest(4, 0, 30), 9, 0);
    }

    private static void longestInSeasons() {
        Due.answers(drop(29), x -> x.longest(8, 0, 29), 9, 0);
        Due.is("in 30", drop(29).longest(8, 0, 30), -2);
        Due.answers(drop(1), x -> x.longest(8, 0, 1), 9, 0);
        Due.is("in 2", drop(1).longest(8, 0, 2), -2);
        FullStopWells x = Due.made("33" + "6.......1", "");
        TermEdges.toTheMost(x);
        TermEdges.toTheMost(x);
        TermEdges.toTheMost(x);
        Due.is("PARCHED", x.count(5), 9999);
        Due.is("of one that has too little, though PARCHED can be no more", x.longest(0, 1, 1), 3);
    }

    private static void waterOfLongest() {
        Due.answers(thirstOf(2, "5"), x -> x.longest(0, 0, 1), 9, 3);
        Due.answers(thirstOf(2, "5"), x -> x.longest(0, 0, 30), 9, 90);
        Due.answers(thirstOf(1, "9"), x -> x.longest(0, 0, 30), 9, 98);
        FullStopWells x = TermEdges.made();
        Due.row(x, "of a third one", x.longest(8, 2, 2), 7, 0);
    }

    private static void longestInNone() {
        Due.is("of no FLOW", thirstOf(1, "0").longest(0, 0, 1), -2);
        Due.is("of 5 for 6", thirstOf(6, "5").longest(0, 0, 1), -2);
        Due.is("of 6 for 6", thirstOf(6, "6").longest(0, 0, 1), 9);
        Due.is("in 0 WORDS alone", thirstOf(1, "w=0").longest(0, 0, 1), -2);
        Due.is("in 10 WORDS alone", thirstOf(1, "w=10").longest(0, 0, 1), -2);
    }

    private static void longestOnAWell() {
        FullStopWells x = TermEdges.made();
        x.covers(0);
        Due.row(x, "on one", x.longest(1, 0, 1), -3, 0, 4, 8);
        Due.row(x, "on the other", x.longest(7, 0, 30), -3, 0, 4, 8);
        FullStopWells y = Due.made("33" + "1........", TermEdges.EIGHT);
        Due.is("a ninth", y.longest(8, 0, 1), -3);
        Due.is("on one of eight", y.longest(0, 0, 1), -3);
        FullStopWells z = Due.made("33" + "1........", TermEdges.EIGHT.substring(0, 34));
        Due.is("the eighth", z.longest(8, 0, 1), 9);
    }

    private static void dearest() {
        Edge.test(27, "The WELL without which (it being not there) the most would be PARCHED more in n SEASONS (1 .. 30), nothing else being done",
            LaterEdges::dearestInSeasons);
        Edge.test(27, "of equal ones the first: it", LaterEdges::dearestOfEqualOnes);
        Edge.test(27, "the ROW: how many would be, how many are as it is", LaterEdges::rowOfDearest);
        Edge.test(27, "-2: there are no WELLS", LaterEdges::dearestOfNone);
        Edge.test(27, "NONE: another n", () -> isNone("dearest", (x, of) -> x.dearest(of[0]),
            new int[][] {{0}, {31}, {-1}, {TermEdges.LEAST}, {TermEdges.GREATEST}}));
    }

    private static void dearestInSeasons() {
        Due.answers(drop(29), x -> x.dearest(29), 0, 29, 0);
        Due.answers(drop(29), x -> x.dearest(30), 0, 30, 1);
        Due.answers(drop(29), x -> x.dearest(1), 0, 1, 0);
        FullStopWells x = Due.made("33" + "1.1.1....", "001.;021.;111.");
        Due.rule(x, "0");
        x.sheet(2, 3, 1, 2);
        Due.row(x, "the middle one", x.dearest(5), 2, 11, 6);
        Due.is("all of them stay", x.count(3), 3);
    }

    private static void dearestOfEqualOnes() {
        FullStopWells x = Due.made("33" + "1.1......", "201.;001.;021.");
        Due.rule(x, "w*m*0");
        x.sheet(2, 3, 0, 2);
        x.draws(2, 2);
        // either of the last two has WATER for 2 of 3 SEASONS
        Due.row(x, "dearest(3)", x.dearest(3), 1, 4, 2);
        Due.row(x, "dearest(1)", x.dearest(1), 0, 0, 0);
        FullStopWells y = Due.made("33" + "1.......1", TermEdges.EIGHT);
        Due.rule(y, "0");
        y.sheet(2, 8, -1, 1);
        // WATER of 0, 0, 1 .. 6 for 60 times
        Due.row(y, "the last of eight", y.dearest(30), 7, 45, 39);
    }

    private static void rowOfDearest() {
        FullStopWells x = TermEdges.made();
        Due.row(x, "dearest(2)", x.dearest(2), 0, 6, 2);
        x.seasons(9);
        Due.row(x, "those ahead are not told", x.dearest(1), 0, 3, 1);
    }

    private static void dearestOfNone() {
        FullStopWells x = Due.made(TermEdges.PLAIN, "");
        x.covers(0);
        Due.row(x, "dearest(1)", x.dearest(1), -2, 0, 4, 8);
        Due.row(x, "dearest(30)", x.dearest(30), -2, 0, 4, 8);
        Due.row(x, "dearest(31)", x.dearest(31), -1, 0, 4, 8);
        x.says(0, 1, 1);
        Due.row(x, "of one", x.dearest(1), 0, 3, 0);
    }

    private static void bears() {
        Edge.test(28, "The most ANDS (0 .. 9 less those that are there) that can be thrown in a WELL now", LaterEdges::mostAnds);
        Edge.test(28, "so that no more are PARCHED in n SEASONS (1 .. 30) than without, nothing else being done: how many", LaterEdges::noMoreThanWithout);
        Edge.test(28, "the ROW: how many are PARCHED in these", LaterEdges::rowOfBears);
        Edge.test(28, "NONE: others", () -> isNone("bears", (x, of) -> x.bears(of[0], of[1]),
            new int[][] {{2, 1}, {-1, 1}, {8, 1}, {TermEdges.LEAST, 1}, {TermEdges.GREATEST, 1}, {0, 0}, {0, 31}, {0, -1}, {0, TermEdges.LEAST},
                {1, TermEdges.GREATEST}}));
    }

    private static void mostAnds() {
        FullStopWells x = drop(9);
        for (int ands = 0; ands <= 9; ands++) {
            Due.row(x, "bears of one with " + ands, x.bears(0, 9), 9 - ands, 0);
            x.ands(0);
        }
        Due.is("ANDS", x.well(0, 3), 9);
        FullStopWells y = Due.made("33" + "1........", "001.");
        Due.rule(y, "a<8");
        for (int ands = 0; ands <= 7; ands++) {
            Due.row(y, "those that are there are counted, too: " + ands, y.bears(0, 3), 7 - ands, 0);
            y.ands(0);
        }
        Due.row(y, "one too many is there", y.bears(0, 3), 1, 3);
    }

    private static void noMoreThanWithout() {
        FullStopWells x = Due.made("33" + "1........", "001.");
        for (int most = 1; most <= 9; most++) {
            Due.rule(x, "a<" + most);
            Due.row(x, "bears by a<" + most, x.bears(0, 30), most - 1, 0);
        }
        Due.rule(x, "a=0");
        Due.row(x, "none", x.bears(0, 1), 0, 0);
        Due.rule(x, "(a=0)+(a=6)");
        Due.row(x, "more, though fewer are too many", x.bears(0, 1), 6, 0);
        Due.answers(drop(29), y -> y.bears(0, 30), 9, 1);
        Due.answers(drop(29), y -> y.bears(0, 29), 9, 0);
        // with an and nothing flows: WATER of 28 is for 28 SEASONS
        FullStopWells z = Due.made("33" + "1........", "001.");
        Due.rule(z, "(a<1)*(n=0)");
        z.sheet(2, 1, 28, 0);
        Due.row(z, "in 28", z.bears(0, 28), 9, 0);
        Due.row(z, "in 29", z.bears(0, 29), 0, 0);
    }

    private static void rowOfBears() {
        FullStopWells x = TermEdges.made();
        Due.row(x, "as many as without", x.bears(0, 2), 2, 2);
        Due.row(x, "fewer than without", x.bears(1, 2), 9, 0);
        x.seasons(9);
        Due.row(x, "those ahead are not told", x.bears(1, 1), 9, 0);
        FullStopWells y = Due.made("33" + "1.......1", "001.");
        Due.rule(y, "a=0");
        Due.row(y, "none, and one is PARCHED each time", y.bears(0, 1), 0, 1);
        Due.row(y, "none, in 30", y.bears(0, 30), 0, 30);
    }
}
