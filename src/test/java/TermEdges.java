/** Edges that the Terms name, those of the plain, the wells, the rule and a season. */
final class TermEdges {
    /** Fields by rows: villages 0, 1, 2 on 0, 4, 8, of thirst 2, 1, 3. */
    static final String PLAIN = "33" + "2.." + ".1." + "..3";
    /** Well 0 on field 1, four words, meant: flow 6; well 1 on field 7, five words, not: flow 1. */
    static final String WELLS = "014.;215,";
    static final String BARE = "33" + "...".repeat(3);
    static final String WIDE = "66" + "......".repeat(6);
    /** All fields of a plain of 3 by 3 but the last. */
    static final String EIGHT = "001.;011.;021.;101.;111.;121.;201.;211.";
    static final int LEAST = Integer.MIN_VALUE;
    static final int GREATEST = Integer.MAX_VALUE;

    private TermEdges() {
    }

    static FullStopWells made() {
        return Due.made(PLAIN, WELLS);
    }

    static void all() {
        plain();
        wells();
        rule();
        season();
    }

    private static void plain() {
        Edge.test(0, "THE PLAIN: ROWS and COLUMNS, 3 to 6 each", TermEdges::threeToSix);
        Edge.test(0, "(at first 3 and 3)", TermEdges::threeAtFirst);
        Edge.test(0, "FIELDS by rows, from 0 on", TermEdges::fieldsByRows);
        Edge.test(0, "each with a VILLAGE or none (at first none)", TermEdges::noVillagesAtFirst);
        Edge.test(0, "It is told by a text of two digits (3 .. 6) and one sign for each FIELD", TermEdges::oneSignForEachField);
        Edge.test(0, ". none, a digit 1 .. 6 a VILLAGE of that THIRST", TermEdges::thirstOneToSix);
        Edge.test(0, "at most 6 VILLAGES", TermEdges::sixVillages);
        Edge.test(0, "which are numbered by FIELDS (0, 1, ..)", TermEdges::villagesByFields);
    }

    private static void threeToSix() {
        for (int rows = 3; rows <= 6; rows++) {
            for (int columns = 3; columns <= 6; columns++) {
                FullStopWells x = new FullStopWells();
                Due.is("plain", Due.plain(x, "" + rows + columns + ".".repeat(rows * columns)), rows * columns);
                Due.is("ROWS", x.count(0), rows);
                Due.is("COLUMNS", x.count(1), columns);
            }
        }
        FullStopWells x = new FullStopWells();
        Due.is("2 ROWS", Due.plain(x, "23......"), -1);
        Due.is("7 ROWS", Due.plain(x, "73" + ".".repeat(21)), -1);
        Due.is("2 COLUMNS", Due.plain(x, "32......"), -2);
        Due.is("7 COLUMNS", Due.plain(x, "37" + ".".repeat(21)), -2);
    }

    private static void threeAtFirst() {
        FullStopWells x = new FullStopWells();
        Due.is("ROWS", x.count(0), 3);
        Due.is("COLUMNS", x.count(1), 3);
        Due.is("the last FIELD", x.says(8, 1, 1), 0);
        Due.is("one FIELD more", x.says(9, 1, 1), -1);
    }

    private static void fieldsByRows() {
        FullStopWells x = Due.made("34" + "1..." + "...." + "...6", "031.;101.;231.");
        Due.is("the first", x.village(0, 0), 0);
        Due.is("the last", x.village(1, 0), 11);
        Due.is("ROW 0, COLUMN 3", x.well(0, 0), 3);
        Due.is("ROW 1, COLUMN 0", x.well(1, 0), 4);
        Due.is("ROW 2, COLUMN 3", x.well(2, 0), 11);
    }

    private static void noVillagesAtFirst() {
        FullStopWells x = new FullStopWells();
        Due.is("VILLAGES", x.count(2), 0);
        Due.is("THIRST", x.count(7), 0);
        Due.throwsNoSuchElement("village(0, 0)", () -> x.village(0, 0));
    }

    private static void oneSignForEachField() {
        FullStopWells x = new FullStopWells();
        Due.is("as many", Due.plain(x, "36" + ".".repeat(18)), 18);
        Due.is("one less", Due.plain(x, "36" + ".".repeat(17)), -20);
        Due.is("one more", Due.plain(x, "36" + ".".repeat(19)), -21);
        Due.is("the most", Due.plain(x, "66" + ".".repeat(36)), 36);
    }

    private static void thirstOneToSix() {
        FullStopWells x = new FullStopWells();
        Due.is("plain", Due.plain(x, "33123456..."), 9);
        for (int i = 0; i < 6; i++) {
            Due.is("THIRST of " + i, x.village(i, 1), i + 1);
        }
        Due.is("0", Due.plain(x, "330........"), -3);
        Due.is("7", Due.plain(x, "33........7"), -11);
        Due.is("none", Due.plain(x, BARE), 9);
        Due.is("VILLAGES", x.count(2), 0);
    }

    private static void sixVillages() {
        FullStopWells x = new FullStopWells();
        Due.is("six", Due.plain(x, "33" + "111" + ".1." + "1.1"), 9);
        Due.is("VILLAGES", x.count(2), 6);
        Due.is("a seventh", Due.plain(x, "331111111.."), -9);
        Due.is("VILLAGES", x.count(2), 6);
    }

    private static void villagesByFields() {
        FullStopWells x = Due.made("33.6.1.2..3", "");
        int[] fields = {1, 3, 5, 8};
        int[] thirsts = {6, 1, 2, 3};
        for (int i = 0; i < 4; i++) {
            Due.is("FIELD of " + i, x.village(i, 0), fields[i]);
            Due.is("THIRST of " + i, x.village(i, 1), thirsts[i]);
        }
    }

    private static void wells() {
        Edge.test(0, "WELLS 0 .. (at most 8)", TermEdges::eightWells);
        Edge.test(0, "a FIELD (of which there is no other WELL", TermEdges::oneWellOfAField);
        Edge.test(0, "a VILLAGE can be there)", TermEdges::villageOnAWell);
        Edge.test(0, "WORDS 1 .. 9", TermEdges::wordsOneToNine);
        Edge.test(0, "MEANT or not", TermEdges::meantOrNot);
        Edge.test(0, "ANDS 0 .. 9 (at first 0)", TermEdges::nineAnds);
        Edge.test(0, "WATER 0 .. 99 (at first 0)", TermEdges::waterTo99);
        Edge.test(0, "DEPTH is 10 less WORDS, if MEANT, else 1", TermEdges::depth);
        Edge.test(0, "They are told by a text of at most 39 signs", TermEdges::thirtyNineSigns);
        Edge.test(0, "LINES with ; between, each one more", TermEdges::linesWithBetween);
        Edge.test(0, "two digits (ROW, COLUMN: a FIELD without a WELL)", TermEdges::rowAndColumn);
        Edge.test(0, "a digit (WORDS, not 0)", TermEdges::wordsNotZero);
        Edge.test(0, "a full stop (MEANT) or a comma (not)", TermEdges::stopOrComma);
        Edge.test(0, "SEASON (at first 0)", () -> Due.is("SEASON", new FullStopWells().count(4), 0));
        Edge.test(0, "PARCHED 0 .. 9999 (at first 0)", TermEdges::parchedFrom0);
        Edge.test(0, "FAR: ROWS and COLUMNS between two FIELDS added", TermEdges::far);
    }

    private static void eightWells() {
        FullStopWells x = new FullStopWells();
        for (int i = 0; i < 8; i++) {
            Due.is("says", x.says(8 - i, 1, 1), i);
        }
        Due.is("says a ninth", x.says(0, 1, 1), -3);
        Due.is("wells tells of a ninth", Due.wells(x, "001."), -1);
        Due.is("year says a ninth", Due.year(x, "s001."), 0);
        Due.is("WELLS", x.count(3), 8);
        Due.is("wells tells of eight", Due.wells(new FullStopWells(), EIGHT), 8);
    }

    private static void oneWellOfAField() {
        FullStopWells x = made();
        Due.is("says", x.says(1, 1, 1), -2);
        Due.is("wells", Due.wells(x, "012,"), -2);
        Due.is("year", Due.year(x, "s012,"), 0);
        Due.is("WELLS", x.count(3), 2);
    }

    private static void villageOnAWell() {
        FullStopWells x = made();
        Due.is("says", x.says(0, 1, 1), 2);
        Due.is("wells", Due.wells(x, "111."), 1);
        Due.is("year", Due.year(x, "s221."), 1);
        x.sheet(2, 5, 1, 0);
        Due.is("FAR", x.village(0, 3), 0);
        Due.is("FAR", x.village(1, 3), 0);
        Due.is("FAR", x.village(2, 3), 0);
    }

    private static void wordsOneToNine() {
        FullStopWells x = new FullStopWells();
        Due.is("1", x.says(0, 1, 1), 0);
        Due.is("9", x.says(1, 9, 1), 1);
        Due.is("0", x.says(2, 0, 1), -1);
        Due.is("10", x.says(2, 10, 1), -1);
        Due.is("WORDS", x.well(0, 1), 1);
        Due.is("WORDS", x.well(1, 1), 9);
    }

    private static void meantOrNot() {
        FullStopWells x = new FullStopWells();
        x.says(0, 3, 1);
        x.says(1, 3, 0);
        Due.is("MEANT", x.well(0, 2), 1);
        Due.is("not", x.well(1, 2), 0);
    }

    private static void nineAnds() {
        FullStopWells x = Due.made(BARE, "005.");
        x.says(1, 5, 1);
        Due.is("of wells(), at first", x.well(0, 3), 0);
        Due.is("of says(), at first", x.well(1, 3), 0);
        for (int i = 1; i <= 9; i++) {
            Due.is("ands", x.ands(0), i);
        }
        Due.is("a tenth", x.ands(0), -2);
        Due.is("ANDS", x.well(0, 3), 9);
        // a WELL on the place of one that is gone begins anew
        Due.is("year", Due.year(x, "s021.a2a2"), 3);
        x.undo();
        x.says(2, 1, 1);
        Due.is("at first, behind undo", x.well(2, 3), 0);
    }

    private static void waterTo99() {
        FullStopWells x = Due.made(BARE, "001.");
        x.says(1, 1, 1);
        Due.is("of wells(), at first", x.well(0, 4), 0);
        Due.is("of says(), at first", x.well(1, 4), 0);
        x.sheet(2, 2, 99, 0);
        x.seasons(1);
        Due.is("more than 99", x.well(0, 4), 99);
        x.sheet(2, 2, 100, -101);
        Due.is("100", x.well(0, 4), 99);
        Due.is("-1", x.well(1, 4), 0);
        // a WELL on the place of one that is gone begins anew
        x.undo();
        x.undo();
        x.says(2, 1, 1);
        Due.is("at first, behind undo", x.well(1, 4), 0);
    }

    private static void depth() {
        FullStopWells x = new FullStopWells();
        for (int w = 1; w <= 4; w++) {
            x.says(2 * w - 2, 10 - w, 1);
            x.says(2 * w - 1, w, 0);
            Due.is("DEPTH if MEANT", x.well(2 * w - 2, 5), w);
            Due.is("DEPTH if not", x.well(2 * w - 1, 5), 1);
        }
        FullStopWells y = new FullStopWells();
        y.says(0, 1, 1);
        Due.is("the greatest DEPTH", y.well(0, 5), 9);
    }

    private static void thirtyNineSigns() {
        Due.is("39 signs", EIGHT.length(), 39);
        Due.is("wells of 39", Due.wells(new FullStopWells(), EIGHT), 8);
        Due.is("wells of 40", Due.wells(new FullStopWells(), EIGHT + ";"), -40);
    }

    private static void linesWithBetween() {
        Due.is("one", Due.wells(new FullStopWells(), "001."), 1);
        Due.is("two", Due.wells(new FullStopWells(), "001.;011."), 2);
        Due.is("nothing between", Due.wells(new FullStopWells(), "001.011."), -5);
        Due.is("a comma between", Due.wells(new FullStopWells(), "001.,011."), -5);
        Due.is(";; between", Due.wells(new FullStopWells(), "001.;;011."), -6);
        Due.is("; ahead", Due.wells(new FullStopWells(), ";001."), -1);
        FullStopWells x = made();
        Due.is("behind others", Due.wells(x, "001.;022."), 2);
        Due.is("FIELD of 1", x.well(1, 0), 7);
        Due.is("FIELD of 2", x.well(2, 0), 0);
        Due.is("FIELD of 3", x.well(3, 0), 2);
    }

    private static void rowAndColumn() {
        FullStopWells x = Due.made("36" + ".".repeat(18), "251.");
        Due.is("FIELD", x.well(0, 0), 17);
        Due.is("ROW that is not there", Due.wells(x, "301."), -1);
        Due.is("COLUMN that is not there", Due.wells(x, "061."), -2);
        Due.is("FIELD with a WELL", Due.wells(x, "251."), -2);
        FullStopWells y = Due.made("63" + ".".repeat(18), "521.");
        Due.is("FIELD", y.well(0, 0), 17);
        Due.is("ROW that is not there", Due.wells(y, "601."), -1);
        Due.is("COLUMN that is not there", Due.wells(y, "031."), -2);
    }

    private static void wordsNotZero() {
        FullStopWells x = new FullStopWells();
        Due.is("0", Due.wells(x, "000."), -3);
        Due.is("1", Due.wells(x, "001."), 1);
        Due.is("9", Due.wells(x, "019."), 1);
        Due.is("WORDS", x.well(0, 1), 1);
        Due.is("WORDS", x.well(1, 1), 9);
    }

    private static void stopOrComma() {
        FullStopWells x = Due.made(BARE, "001.;011,");
        Due.is("full stop", x.well(0, 2), 1);
        Due.is("comma", x.well(1, 2), 0);
        Due.is("another", Due.wells(x, "021!"), -4);
        Due.is("another", Due.wells(x, "021;"), -4);
    }

    private static void parchedFrom0() {
        FullStopWells x = thirsty();
        Due.is("PARCHED at first", x.count(5), 0);
        x.seasons(1);
        Due.is("PARCHED", x.count(5), 6);
        toTheMost(x);
        Due.is("PARCHED", x.count(5), 9999);
    }

    /** Six villages and no well. */
    static FullStopWells thirsty() {
        return Due.made("33" + "111" + "111" + "...", "");
    }

    /** 27 times 360 and one time what is left, or more. */
    static void toTheMost(FullStopWells x) {
        for (int i = 0; i < 28; i++) {
            x.seasons(60);
        }
    }

    private static void far() {
        FullStopWells x = Due.made("66" + "1....1" + "......" + "..1..." + "......" + "......" + "1....1", "551.");
        x.sheet(2, 1, 1, 0);
        int[] due = {10, 5, 6, 5, 0};
        for (int i = 0; i < due.length; i++) {
            Due.is("FAR of " + i, x.village(i, 3), due[i]);
        }
    }

    private static void rule() {
        Edge.test(0, "THE RULE is a text of at most 40 signs", TermEdges::fortySigns);
        Edge.test(0, "(at first none: d-a*2)", TermEdges::ruleAtFirst);
        Edge.test(0, "EXPRESSION: < > = bind least (two; 1 or 0", TermEdges::comparisons);
        Edge.test(0, "not one behind the other)", TermEdges::notOneBehindTheOther);
        Edge.test(0, "then + - (from the left)", () -> flows("9-3-2", 4, "9-3+2", 8, "1+2-3+4", 4, "9-8/2", 5, "1+2*3", 7));
        Edge.test(0, "then * / (from the left", () -> flows("8/2/2", 2, "8/2*2", 8, "9*2/6", 3, "2*3/4*5", 5));
        Edge.test(0, "by 0: 0", () -> flows("9/0", 0, "5+9/0", 5, "9/(a-a)+1", 1, "0/0", 0, "9/0/0+2", 2, "-9/0+3", 3));
        Edge.test(0, "cut to 0)", () -> flows("7/2", 3, "-7/2+9", 6, "7/-2+9", 6, "-7/-2", 3, "-1/2+5", 5));
        Edge.test(0, "then - ahead of a thing (any many)", TermEdges::minusAhead);
        Edge.test(0, "things: a NUMBER of 1 to 3 digits", TermEdges::numbers);
        Edge.test(0, "an EXPRESSION in ( ) (at most 4 in one another)", TermEdges::nested);
        Edge.test(0, "and, of a WELL: w WORDS, d DEPTH, a ANDS, m 1 if MEANT, else 0", TermEdges::ofAWell);
        Edge.test(0, "v how many VILLAGES are FAR 2 or less", TermEdges::villagesNear);
        Edge.test(0, "l WATER", TermEdges::waterInARule);
        Edge.test(0, "n SEASON by 4 (rest)", TermEdges::seasonByFour);
        Edge.test(0, "As ints", TermEdges::asInts);
        Edge.test(0, "put to 0 .. 9: FLOW", () -> flows("0", 0, "-1", 0, "9", 9, "10", 9, "999", 9, "0-999", 0));
    }

    /** FLOW of a WELL that has 3 WORDS, is MEANT, by rules; each with what is due. */
    static void flows(Object... due) {
        for (int i = 0; i < due.length; i += 2) {
            FullStopWells x = Due.made(BARE, "003.");
            Due.is("rule of " + due[i], Due.rule(x, (String) due[i]), 0);
            Due.is("flow by " + due[i], x.well(0, 6), (Integer) due[i + 1]);
        }
    }

    /** Rules that can't be; each with what rule() is due to answer. */
    static void faults(Object... due) {
        for (int i = 0; i < due.length; i += 2) {
            FullStopWells x = Due.made(BARE, "003.");
            Due.rule(x, "5");
            Due.is("rule of " + due[i], Due.rule(x, (String) due[i]), (Integer) due[i + 1]);
            Due.is("the rule stays", x.well(0, 6), 5);
        }
    }

    private static void fortySigns() {
        flows("-".repeat(38) + "12", 9, "1+".repeat(18) + "1-15", 4);
        faults("-".repeat(38) + "123", -41, "-".repeat(39) + "1+", -41, "1+".repeat(20), -41);
    }

    private static void ruleAtFirst() {
        FullStopWells x = new FullStopWells();
        x.says(0, 3, 1);
        Due.is("flow", x.well(0, 6), 7);
        x.ands(0);
        Due.is("flow of one and", x.well(0, 6), 5);
        x.ands(0);
        x.ands(0);
        x.ands(0);
        Due.is("flow of four ands", x.well(0, 6), 0);
    }

    private static void comparisons() {
        flows("1<2", 1, "2<1", 0, "2<2", 0, "2>1", 1, "1>2", 0, "2>2", 0, "2=2", 1, "1=2", 0, "2=1", 0);
        flows("(2<1)+5", 5, "(1>2)+5", 5, "(1=2)+5", 5, "(1<2)+5", 6, "(2>1)+5", 6, "(1=1)+5", 6);
        flows("1+1<1+2", 1, "2*3>5", 1, "3=1+2", 1, "1<2+9", 1, "(1<2)+9-1", 9, "-1<0", 1);
        faults("<1", -1, "1<", -3);
    }

    private static void notOneBehindTheOther() {
        faults("1<2<3", -4, "1<2>3", -4, "1=2=3", -4, "1<2+3>4", -6, "(1<2<3)", -5, "1<(2)=3", -6);
        flows("(1<2)<3", 1, "1<(2<3)", 0, "(1<2)+(2<3)+(3<4)", 3, "((1<2)=(2<3))>0", 1);
        faults("1<(2<3)<4", -8, "((1<2)=(2<3))>0<1", -16);
    }

    private static void minusAhead() {
        flows("--5", 5, "---5+9", 4, "-".repeat(38) + "5", 5, "-".repeat(39) + "5", 0, "9--3*-1", 6, "2*-3+9", 3, "-2*-3", 6);
        flows("--(1+2)", 3, "-w+9", 6, "9-(-(-2))", 7, "-3+5", 2, "1<-2", 0, "1>-2", 1, "-2*3+8", 2);
        faults("-", -2, "5-", -3, "+5", -1, "(-)", -3);
    }

    private static void numbers() {
        flows("7", 7, "12-4", 8, "999-991", 8, "007", 7, "010-3", 7, "100/25", 4);
        faults("1000", -4, "0000", -4, "5+1234", -6, "1w", -2, "w1", -2, "(1)1", -4, "1 1", -2);
    }

    private static void nested() {
        flows("((((5))))", 5, "((((5))))+((((1))))", 6, "(1)+(2)+(3)+(1)+(2)", 9, "((((1)+1)+1)+1)", 4);
        faults("(((((5)))))", -5, "((((1))))+(((((1)))))", -15, "((((1)+(((2))))))", -9);
        faults("(", -2, "()", -2, "(5", -3, "5)", -2, "(5))", -4, ")", -1, "5(", -2);
    }

    private static void ofAWell() {
        flows("w", 3, "d", 7, "a", 0, "m", 1);
        FullStopWells x = Due.made(BARE, "005,");
        x.ands(0);
        x.ands(0);
        String[] rules = {"w", "d", "a", "m"};
        int[] due = {5, 1, 2, 0};
        for (int i = 0; i < rules.length; i++) {
            Due.rule(x, rules[i]);
            Due.is("flow by " + rules[i], x.well(0, 6), due[i]);
        }
        faults("x", -1, "W", -1, "s", -1, "\u00e9", -1, "w\u00ffw", -2, "\u00ffw", -1, "w\0", -2);
    }

    private static void villagesNear() {
        // FAR 0, 2, 3 in its ROW, 2 and 3 in the next one, 2 in the last one
        FullStopWells x = Due.made("36" + "1.11.." + ".11..." + "1.....", "001.;251.");
        Due.rule(x, "v");
        Due.is("FAR 2 or less", x.well(0, 6), 4);
        Due.is("none", x.well(1, 6), 0);
        FullStopWells y = Due.made("33" + "111" + "1.1" + "..1", "111.;201.");
        Due.rule(y, "v");
        Due.is("all", y.well(0, 6), 6);
        Due.is("FAR 1, 2 and 2", y.well(1, 6), 3);
        FullStopWells z = Due.made(BARE, "111.");
        Due.rule(z, "v");
        Due.is("no VILLAGES", z.well(0, 6), 0);
    }

    private static void waterInARule() {
        FullStopWells x = Due.made(BARE, "001.;011.");
        x.sheet(2, 2, 5, 3);
        Due.rule(x, "l");
        Due.is("WATER of 0", x.well(0, 6), 5);
        Due.is("WATER of 1", x.well(1, 6), 8);
        x.sheet(2, 2, 99, -99);
        Due.rule(x, "l-95");
        Due.is("the most", x.well(0, 6), 4);
        Due.rule(x, "l+1");
        Due.is("dry", x.well(1, 6), 1);
    }

    private static void seasonByFour() {
        FullStopWells x = Due.made(BARE, "001.");
        Due.rule(x, "n");
        for (int season = 0; season <= 9; season++) {
            Due.is("SEASON " + season, x.well(0, 6), season % 4);
            x.seasons(1);
        }
    }

    private static void asInts() {
        // 2 ^ 31 goes round to the least int, and stays it with another sign or divided by -1
        flows("512*512*512*16<0", 1, "512*512*512*16-1>0", 1, "-(512*512*512*16)<0", 1, "512*512*512*16/-1<0", 1);
        flows("512*512*512*32=0", 1, "512*512*512*32+7", 7, "999*999*999*3", 0, "999*999*999*3<0", 1);
        flows("512*512*512*16/-1/512/512/512+18", 2);
    }

    private static void season() {
        Edge.test(0, "A SEASON goes by: (1) WATER of each WELL is FLOW more (99 at most", TermEdges::waterRises);
        Edge.test(0, "FLOW of all as it is ahead)", TermEdges::flowAsItIsAhead);
        Edge.test(0, "(2) VILLAGES by their numbers", TermEdges::villagesByNumbers);
        Edge.test(0, "each draws from the WELL that has WATER then and is the nearest", TermEdges::nearestThen);
        Edge.test(0, "(of like ones the first)", TermEdges::ofLikeOnesTheFirst);
        Edge.test(0, "as much as its THIRST, or as there is", TermEdges::asThereIs);
        Edge.test(0, "if that is less than THIRST", TermEdges::lessThanThirst);
        Edge.test(0, "or there is no such WELL, PARCHED is 1 more", TermEdges::noSuchWell);
        Edge.test(0, "(9999 at most)", TermEdges::mostParched);
        Edge.test(0, "(3) SEASON is 1 more", TermEdges::seasonIsOneMore);
    }

    private static void waterRises() {
        FullStopWells x = Due.made(BARE, "004.;019.;029.");
        x.sheet(2, 3, 93, 6);
        x.seasons(1);
        Due.is("93 and 6", x.well(0, 4), 99);
        Due.is("99 and 1", x.well(1, 4), 99);
        Due.is("99 put, and 1", x.well(2, 4), 99);
        x.sheet(2, 3, 92, 5);
        x.seasons(1);
        Due.is("92 and 6", x.well(0, 4), 98);
        Due.is("97 and 1", x.well(1, 4), 98);
        // what a VILLAGE draws is drawn behind the cut
        FullStopWells y = Due.made("33" + "3.." + "......", "004.");
        y.sheet(2, 1, 98, 0);
        y.seasons(1);
        Due.is("98 and 6, cut, less 3", y.well(0, 4), 96);
    }

    private static void flowAsItIsAhead() {
        FullStopWells x = Due.made("33" + "2.." + "......", "001.;011.");
        x.sheet(2, 2, 3, -1);
        Due.rule(x, "l");
        x.seasons(1);
        Due.is("3 and 3, less 2", x.well(0, 4), 4);
        Due.is("2 and 2", x.well(1, 4), 4);
        FullStopWells y = Due.made(BARE, "001.");
        Due.rule(y, "n+1");
        y.seasons(1);
        Due.is("SEASON ahead of it", y.well(0, 4), 1);
    }

    private static void villagesByNumbers() {
        FullStopWells x = Due.made("33" + "2.3" + "......", "011.");
        Due.rule(x, "0");
        x.sheet(2, 1, 4, 0);
        Due.is("what the first draws", x.drinks(0, 1), 2);
        Due.is("what is left to the second", x.drinks(1, 1), 2);
        x.seasons(1);
        Due.is("WATER", x.well(0, 4), 0);
        Due.is("PARCHED", x.count(5), 1);
    }

    private static void nearestThen() {
        FullStopWells x = Due.made("33" + "11." + "......", "011.;221.");
        Due.rule(x, "0");
        x.sheet(2, 2, 1, 4);
        // the first makes the nearest dry: the second goes to the farther one
        Due.row(x, "the first", x.drinks(0, 1), 1, 0);
        Due.row(x, "the second", x.drinks(1, 1), 1, 1);
        // a WELL that FLOW alone fills has WATER then
        x.sheet(2, 2, 0, 5);
        Due.rule(x, "m");
        Due.row(x, "FLOW ahead of the drawing", x.drinks(0, 1), 1, 0);
    }

    private static void ofLikeOnesTheFirst() {
        FullStopWells x = Due.made("33" + "..." + ".1." + "...", "011.;101.;121.;211.");
        Due.rule(x, "0");
        // the first ones are dry, more of them each time
        for (int first = 0; first < 4; first++) {
            x.sheet(2, 4, 1 - first, 1);
            Due.is("the nearest", x.village(0, 2), first);
            Due.row(x, "drinks(0, 1)", x.drinks(0, 1), 1, first);
        }
    }

    private static void asThereIs() {
        FullStopWells x = Due.made("33" + "4.." + "......", "001.;011.");
        Due.rule(x, "0");
        x.sheet(2, 2, 5, 10);
        x.seasons(1);
        Due.is("as its THIRST", x.well(0, 4), 1);
        x.seasons(1);
        Due.is("as there is", x.well(0, 4), 0);
        Due.is("nothing from the next one", x.well(1, 4), 15);
        Due.is("PARCHED", x.count(5), 1);
    }

    private static void lessThanThirst() {
        for (int water = 1; water <= 4; water++) {
            FullStopWells x = Due.made("33" + "3.." + "......", "001.");
            Due.rule(x, "0");
            x.sheet(2, 1, water, 0);
            x.seasons(1);
            Due.is("PARCHED of " + water, x.count(5), water < 3 ? 1 : 0);
        }
    }

    private static void noSuchWell() {
        FullStopWells x = Due.made(PLAIN, "");
        x.seasons(1);
        Due.is("no WELL", x.count(5), 3);
        x.says(0, 1, 1);
        Due.rule(x, "0");
        x.seasons(1);
        Due.is("no WATER", x.count(5), 6);
    }

    private static void mostParched() {
        FullStopWells x = thirsty();
        for (int i = 0; i < 27; i++) {
            x.seasons(60);
        }
        x.seasons(46);
        Due.is("PARCHED", x.count(5), 9996);
        x.seasons(1);
        Due.is("3 of 6 more", x.count(5), 9999);
        x.seasons(1);
        Due.is("none more", x.count(5), 9999);
    }

    private static void seasonIsOneMore() {
        FullStopWells x = new FullStopWells();
        x.seasons(1);
        Due.is("SEASON", x.count(4), 1);
        x.seasons(60);
        Due.is("SEASON", x.count(4), 61);
        Due.year(x, "n9n0n3");
        Due.is("SEASON", x.count(4), 73);
    }
}
