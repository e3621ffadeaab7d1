/** Edges that promises 1 to 9 name. */
final class PlainEdges {
    private PlainEdges() {
    }

    static void all() {
        newObject();
        texts();
        plain();
        wells();
        rule();
        looks();
        sheet();
    }

    private static void newObject() {
        Edge.test(1, "A PLAIN of three ROWS and COLUMNS", PlainEdges::threeAndThree);
        Edge.test(1, "no VILLAGES, no WELLS", PlainEdges::emptyAtFirst);
    }

    private static void threeAndThree() {
        FullStopWells x = new FullStopWells();
        Due.is("ROWS", x.count(0), 3);
        Due.is("COLUMNS", x.count(1), 3);
        Due.is("side of the square", x.square(), 3);
        Due.is("FIELDS that are far from a WELL", x.dry(0), 511);
    }

    private static void emptyAtFirst() {
        FullStopWells x = new FullStopWells();
        for (int what = 2; what <= 13; what++) {
            Due.is("count(" + what + ")", x.count(what), 0);
        }
        Due.throwsNoSuchElement("well(0, 0)", () -> x.well(0, 0));
        Due.throwsNoSuchElement("village(0, 0)", () -> x.village(0, 0));
        Due.throwsNoSuchElement("row(0)", () -> x.row(0));
        Due.is("undo()", x.undo(), -1);
        Due.is("again(0)", x.again(0), false);
        Due.is("again(1)", x.again(1), false);
        Due.row(x, "balance()", x.balance(), 1000, 0, 0);
    }

    private static void texts() {
        Edge.test(2, "Four signs come behind THE TEXT, of v the highest byte first", PlainEdges::highestByteFirst);
        Edge.test(2, "how many it has", PlainEdges::fourMoreEachTime);
        Edge.test(2, "Refused: there would be more than 80", PlainEdges::eightySigns);
        Edge.test(3, "THE TEXT has its first n signs alone: true", PlainEdges::firstSignsAlone);
        Edge.test(3, "THE TEXT has its first n signs alone: true", PlainEdges::signsBehindAreGone);
        Edge.test(3, "false if it has not so many", PlainEdges::notSoMany);
        Edge.test(3, "or n is below 0", PlainEdges::belowZeroSigns);
    }

    private static void highestByteFirst() {
        FullStopWells x = new FullStopWells();
        x.sign(0x31323334);
        Due.row(x, "waits of 1234", x.waits(), 4, 3, 3);
        x.sign(0x34333231);
        Due.row(x, "waits of 4321", x.waits(), 4, 0, 0);
        // the highest bit of an int is no minus: sign 255 stands nowhere
        x.sign(0xFF333333);
        Due.is("plain of sign 255", x.plain(), -1);
        x.sign(0x3333FF2E);
        Due.is("plain of sign 255 behind others", x.plain(), -3);
        x.sign(0x333300FF);
        Due.is("plain of sign 0", x.plain(), -3);
        // 128 more than a digit is no digit
        x.sign(0x31B20000);
        x.end(2);
        Due.is("waits of 1 and sign 178", x.waits(), -2);
    }

    private static void fourMoreEachTime() {
        FullStopWells x = new FullStopWells();
        Due.is("sign", x.sign(0), 4);
        Due.is("sign", x.sign(TermEdges.LEAST), 8);
        x.end(1);
        Due.is("sign behind one", x.sign(-1), 5);
        x.end(0);
        Due.is("sign behind none", x.sign(TermEdges.GREATEST), 4);
    }

    private static void eightySigns() {
        FullStopWells x = new FullStopWells();
        for (int i = 0; i < 19; i++) {
            x.sign(0);
        }
        Due.is("signs", Seen.signs(x), 76);
        Due.is("up to 80", x.sign(0), 80);
        Due.is("84", x.sign(0), -1);
        for (int n = 79; n >= 77; n--) {
            x.end(n);
            Due.is("sign behind " + n, x.sign(0), -1);
            Due.is("signs", Seen.signs(x), n);
        }
        x.end(76);
        Due.is("sign behind 76", x.sign(0), 80);
    }

    private static void firstSignsAlone() {
        FullStopWells x = new FullStopWells();
        x.sign(0x35363738);
        Due.is("end(4) of 4", x.end(4), true);
        Due.is("signs", Seen.signs(x), 4);
        Due.is("end(2)", x.end(2), true);
        Due.is("signs", Seen.signs(x), 2);
        Due.is("the first ones", x.waits(), 6);
        Due.is("end(0) of 0", x.end(0), true);
        x.sign(0x35363738);
        Due.is("end(0)", x.end(0), true);
        Due.is("signs", Seen.signs(x), 0);
    }

    /** A text that is cut so that its next sign would go on with it. */
    private static FullStopWells cut(String text, int n) {
        FullStopWells x = TermEdges.made();
        Due.tell(x, text);
        Due.is("end(" + n + ") of " + text, x.end(n), true);
        return x;
    }

    private static void signsBehindAreGone() {
        Due.is("plain", cut(TermEdges.BARE, 10).plain(), -11);
        Due.is("wells", cut("001.;021.", 3).wells(), -4);
        Due.is("wells", cut("001.;021.", 5).wells(), -6);
        Due.is("wells", cut("001.;021.", 4).wells(), 1);
        Due.is("rule", cut("w+w", 2).rule(), -3);
        Due.is("year", cut("n1a0", 3).year(), -4);
        Due.is("year", cut("n1a0", 2).year(), 1);
        Due.is("law", cut("w+w", 2).law(), -10002);
        Due.is("waits", cut("19", 1).waits(), 1);
        Due.is("waits", cut("19", 0).waits(), -1);
    }

    private static void notSoMany() {
        FullStopWells x = new FullStopWells();
        Due.is("end(1) of 0", x.end(1), false);
        x.sign(0x35363738);
        Due.is("end(5) of 4", x.end(5), false);
        Due.is("end of the most", x.end(TermEdges.GREATEST), false);
        x.end(3);
        Due.is("end(4) of 3", x.end(4), false);
        Due.is("signs", Seen.signs(x), 3);
    }

    private static void belowZeroSigns() {
        FullStopWells x = new FullStopWells();
        Due.is("end(-1) of 0", x.end(-1), false);
        x.sign(0x35363738);
        Due.is("end(-1)", x.end(-1), false);
        Due.is("end of the least", x.end(TermEdges.LEAST), false);
        Due.is("signs", Seen.signs(x), 4);
    }

    private static void plain() {
        Edge.test(4, "THE TEXT is THE PLAIN anew: how many FIELDS", PlainEdges::plainAnew);
        Edge.test(4, "there are no WELLS, SEASON and PARCHED are 0, nothing can be undone, nothing is kept", PlainEdges::allIsGone);
        Edge.test(4, "-1 - p: the sign at p can't stand there", PlainEdges::wrongSignsOfAPlain);
        Edge.test(4, "(its end, if it ends too early", PlainEdges::plainEndsTooEarly);
        Edge.test(4, "one too many: at it", PlainEdges::plainOneTooMany);
        Edge.test(4, "a seventh VILLAGE: at it)", PlainEdges::seventhVillage);
    }

    private static void plainAnew() {
        FullStopWells x = TermEdges.made();
        Due.is("plain", Due.plain(x, "45" + "....." + ".4..." + "....." + "....1"), 20);
        Due.is("ROWS", x.count(0), 4);
        Due.is("COLUMNS", x.count(1), 5);
        Due.is("VILLAGES", x.count(2), 2);
        Due.is("THIRST", x.count(7), 5);
        Due.is("FIELD of 0", x.village(0, 0), 6);
        Due.is("FIELD of 1", x.village(1, 0), 19);
        Due.is("the least one", Due.plain(x, TermEdges.BARE), 9);
        Due.is("VILLAGES", x.count(2), 0);
        Due.is("the greatest one", Due.plain(x, TermEdges.WIDE), 36);
        // v of THE RULE is counted anew, too
        Due.plain(x, "33" + "1........");
        Due.wells(x, "001.;221.");
        Due.rule(x, "v");
        Due.is("near", x.well(0, 6), 1);
        Due.is("not near", x.well(1, 6), 0);
        Due.plain(x, "33" + "........1");
        Due.wells(x, "001.;221.");
        Due.is("not near", x.well(0, 6), 0);
        Due.is("near", x.well(1, 6), 1);
    }

    private static void allIsGone() {
        FullStopWells x = TermEdges.made();
        x.seasons(3);
        x.keep(0);
        x.keep(1);
        Due.is("plain, the same", Due.plain(x, TermEdges.PLAIN), 9);
        Due.is("WELLS", x.count(3), 0);
        Due.is("SEASON", x.count(4), 0);
        Due.is("PARCHED", x.count(5), 0);
        Due.is("WATER", x.count(6), 0);
        Due.is("what can be undone", x.count(11), 0);
        Due.is("undo()", x.undo(), -1);
        Due.is("again(0)", x.again(0), false);
        Due.is("again(1)", x.again(1), false);
        // all else stays: what was heard, THE RULE
        x.heard(0, 9);
        Due.rule(x, "w*2");
        Due.plain(x, TermEdges.PLAIN);
        x.says(0, 2, 1);
        Due.is("THE RULE", x.well(0, 6), 4);
        Due.is("what was heard", x.fits(), 0);
    }

    private static void faultOfPlain(String text, int due) {
        FullStopWells x = TermEdges.made();
        x.seasons(2);
        x.keep(0);
        String ahead = Seen.of(x);
        Due.is("plain of " + text, Due.plain(x, text), due);
        Due.is("all behind plain of " + text, Seen.of(x), ahead);
        Due.is("again(0) behind plain of " + text, x.again(0), true);
    }

    private static void wrongSignsOfAPlain() {
        String good = "34" + "1..2.." + "3..4..";
        for (int p = 0; p < good.length(); p++) {
            String wrong = p == 0 ? "2x.70;," : p == 1 ? "2x.7 ;" : "0x7,- ;/:";
            for (int i = 0; i < wrong.length(); i++) {
                faultOfPlain(good.substring(0, p) + wrong.charAt(i) + good.substring(p + 1), -1 - p);
            }
        }
        // the first one of two
        faultOfPlain("34x.x.........", -3);
    }

    private static void plainEndsTooEarly() {
        String good = "66" + "1.....".repeat(6);
        for (int p = 0; p < good.length(); p++) {
            faultOfPlain(good.substring(0, p), -1 - p);
        }
    }

    private static void plainOneTooMany() {
        faultOfPlain(TermEdges.BARE + ".", -12);
        faultOfPlain(TermEdges.BARE + "x", -12);
        faultOfPlain(TermEdges.BARE + "..", -12);
        faultOfPlain(TermEdges.BARE + "\0", -12);
        faultOfPlain(TermEdges.WIDE + ".", -39);
        faultOfPlain(TermEdges.WIDE + ".".repeat(42), -39);
    }

    private static void seventhVillage() {
        faultOfPlain("33" + "123" + "456" + "1..", -9);
        faultOfPlain("33" + "123" + "456" + "..6", -11);
        faultOfPlain("33" + "111" + "111" + "11x", -9);
        faultOfPlain("66" + "1.....".repeat(5) + "1....1", -38);
        Due.is("six", Due.plain(new FullStopWells(), "66" + "1.....".repeat(6)), 36);
    }

    private static void wells() {
        Edge.test(5, "THE TEXT tells of WELLS", PlainEdges::toldWells);
        Edge.test(5, "(an empty one: nothing)", PlainEdges::emptyWells);
        Edge.test(5, "how many LINES", PlainEdges::howManyLines);
        Edge.test(5, "-1 - p: the sign at p can't stand there", PlainEdges::wrongSignsOfWells);
        Edge.test(5, "(its end, if it ends too early", PlainEdges::wellsEndTooEarly);
        Edge.test(5, "39, if it has more and the first 39 could go on or end", PlainEdges::moreThan39);
        Edge.test(5, "a ROW, COLUMN that is not there: at its digit", PlainEdges::noSuchRowOrColumn);
        Edge.test(5, "a FIELD with a WELL, one of a LINE ahead, too: at the digit of its COLUMN", PlainEdges::fieldWithAWell);
        Edge.test(5, "the first sign of a LINE for which there is no room)", PlainEdges::noRoom);
        Edge.test(5, "Nothing of it comes, if a LINE can't", PlainEdges::nothingOfItComes);
    }

    private static void toldWells() {
        FullStopWells x = TermEdges.made();
        x.ands(0);
        x.seasons(2);
        String first = x.well(0, 3) + " " + x.well(0, 4);
        Due.is("wells", Due.wells(x, "229,;003."), 2);
        Due.is("those ahead stay", x.well(0, 3) + " " + x.well(0, 4), first);
        Due.is("SEASON stays", x.count(4), 2);
        int[][] due = {{8, 9, 0, 0, 0, 1}, {0, 3, 1, 0, 0, 7}};
        for (int i = 0; i < 2; i++) {
            for (int what = 0; what <= 5; what++) {
                Due.is("well(" + (2 + i) + ", " + what + ")", x.well(2 + i, what), due[i][what]);
            }
        }
    }

    private static void emptyWells() {
        FullStopWells x = TermEdges.made();
        x.seasons(1);
        x.keep(0);
        String ahead = Seen.of(x);
        Due.is("wells", Due.wells(x, ""), 0);
        Due.is("all", Seen.of(x), ahead);
        Due.is("again(0)", x.again(0), true);
        FullStopWells full = Due.made(TermEdges.BARE, TermEdges.EIGHT);
        Due.is("wells of nothing behind eight", Due.wells(full, ""), 0);
    }

    private static void howManyLines() {
        for (int lines = 1; lines <= 8; lines++) {
            FullStopWells x = new FullStopWells();
            Due.is("wells", Due.wells(x, TermEdges.EIGHT.substring(0, 5 * lines - 1)), lines);
            Due.is("WELLS", x.count(3), lines);
        }
    }

    private static void faultOfWells(String text, int due) {
        FullStopWells x = new FullStopWells();
        x.seasons(2);
        x.keep(0);
        String ahead = Seen.of(x);
        Due.is("wells of " + text, Due.wells(x, text), due);
        Due.is("all behind wells of " + text, Seen.of(x), ahead);
        Due.is("again(0) behind wells of " + text, x.again(0), true);
    }

    private static void wrongSignsOfWells() {
        String good = "001.;112,;229.";
        String[] wrong = {"3x.; ", "3x.; ", "0x.; ", "0x;- ", "0x.,-"};
        for (int p = 0; p < good.length(); p++) {
            for (char sign : wrong[p % 5].toCharArray()) {
                faultOfWells(good.substring(0, p) + sign + good.substring(p + 1), -1 - p);
            }
        }
        faultOfWells("x01.;x11.", -1);
    }

    private static void wellsEndTooEarly() {
        for (int p = 1; p < TermEdges.EIGHT.length(); p++) {
            if (p % 5 != 4) {
                faultOfWells(TermEdges.EIGHT.substring(0, p), -1 - p);
            }
        }
    }

    private static void moreThan39() {
        String nearly = TermEdges.EIGHT.substring(0, 38);
        String[] more = {";", ";2", ";221.", "x", ".", "1"};
        for (String one : more) {
            faultOfWells(TermEdges.EIGHT + one, -40);
        }
        faultOfWells(nearly + ";;", -39);
        faultOfWells(nearly + "xx", -39);
        Due.is("39 signs", Due.wells(new FullStopWells(), nearly + ","), 8);
    }

    private static void noSuchRowOrColumn() {
        faultOfWells("301.", -1);
        faultOfWells("031.", -2);
        faultOfWells("001.;301.", -6);
        faultOfWells("001.;031.", -7);
        faultOfWells("901.", -1);
        faultOfWells("091.", -2);
        FullStopWells x = Due.made("36" + ".".repeat(18), "");
        Due.is("COLUMN 5 of 6", Due.wells(x, "051."), 1);
        Due.is("COLUMN 6 of 6", Due.wells(x, "061."), -2);
        Due.is("ROW 3 of 3", Due.wells(x, "301."), -1);
        FullStopWells y = Due.made("63" + ".".repeat(18), "");
        Due.is("ROW 5 of 6", Due.wells(y, "501."), 1);
        Due.is("ROW 6 of 6", Due.wells(y, "601."), -1);
        Due.is("COLUMN 3 of 3", Due.wells(y, "031."), -2);
    }

    private static void fieldWithAWell() {
        faultOfWells("001.;001.", -7);
        faultOfWells("001.;011.;002,", -12);
        faultOfWells("001.;00", -7);
        faultOfWells("001.;0", -7);
        FullStopWells x = TermEdges.made();
        Due.is("of those ahead of all", Due.wells(x, "014."), -2);
        Due.is("of those ahead of all", Due.wells(x, "001.;215."), -7);
        Due.is("beside them", Due.wells(x, "001.;225."), 2);
    }

    private static void noRoom() {
        FullStopWells x = Due.made(TermEdges.BARE, TermEdges.EIGHT);
        String[] texts = {"221.", "2", "x", "001.", ";"};
        for (String one : texts) {
            Due.is("wells of " + one + " behind eight", Due.wells(x, one), -1);
        }
        FullStopWells y = Due.made(TermEdges.BARE, TermEdges.EIGHT.substring(0, 29));
        String[] third = {"201.;211.;221.", "201.;211.;", "201.;211.;x", "201.;211.;001."};
        for (String one : third) {
            Due.is("wells of " + one + " behind six", Due.wells(y, one), -11);
        }
        Due.is("WELLS", y.count(3), 6);
        Due.is("as many as there is room for", Due.wells(y, "201.;211."), 2);
    }

    private static void nothingOfItComes() {
        faultOfWells("001.;011.;021.;30", -16);
        faultOfWells("001.;011.;021.;", -16);
        FullStopWells x = Due.made(TermEdges.BARE, "001.;011.;021.;101.;111.;121.;201.");
        x.ands(3);
        x.seasons(1);
        String ahead = Seen.of(x);
        Due.is("no room for the second", Due.wells(x, "211.;221."), -6);
        Due.is("all", Seen.of(x), ahead);
        Due.is("undo()", x.undo(), 1);
    }

    private static void rule() {
        Edge.test(6, "THE TEXT is THE RULE", PlainEdges::ruleIsTold);
        Edge.test(6, "(an empty one: none): 0", PlainEdges::emptyRule);
        Edge.test(6, "-1 - p: likewise (40 signs)", PlainEdges::wrongRules);
        Edge.test(6, "THE TEXT is THE RULE", PlainEdges::ruleBehindWrongOnes);
    }

    private static void ruleIsTold() {
        FullStopWells x = TermEdges.made();
        x.seasons(1);
        x.keep(0);
        Due.is("rule", Due.rule(x, "w+1"), 0);
        Due.is("flow of 0", x.well(0, 6), 5);
        Due.is("flow of 1", x.well(1, 6), 6);
        Due.is("rule", Due.rule(x, "3"), 0);
        Due.is("flow of 1", x.well(1, 6), 3);
        Due.is("what can be undone", x.count(11), 1);
        x.undo();
        Due.is("THE RULE behind undo()", x.well(1, 6), 3);
        x.again(0);
        Due.is("THE RULE behind again()", x.well(1, 6), 3);
    }

    /** Whatever a wrong rule left begun, the next one is read by itself. */
    private static void ruleBehindWrongOnes() {
        String[] wrong = {"w-", "((((1", "1<", "-", "(1+(2*(", "12x", "1<2<3", "-".repeat(40), "1+".repeat(20)};
        String[] right = {"w", "((((4))))", "5-1", "1+3", "--4", "(1<2)*4", "4"};
        FullStopWells x = Due.made(TermEdges.BARE, "004.");
        for (String first : wrong) {
            for (String second : right) {
                Due.is("rule of " + first + " is wrong", Due.rule(x, first) < 0, true);
                Due.is("rule of " + second, Due.rule(x, second), 0);
                Due.is("flow by " + second + " behind " + first, x.well(0, 6), 4);
            }
        }
    }

    private static void emptyRule() {
        FullStopWells x = TermEdges.made();
        Due.rule(x, "9");
        Due.is("rule", Due.rule(x, ""), 0);
        Due.is("flow", x.well(0, 6), 6);
        x.ands(0);
        Due.is("flow", x.well(0, 6), 4);
    }

    private static void wrongRules() {
        String forty = "1+".repeat(19) + "12";
        TermEdges.faults("x", -1, "w+", -3, "w x", -2, "(w", -3, forty + "3", -41, forty + ")", -41, forty + "x", -41);
        TermEdges.faults("1+".repeat(20), -41, "1+".repeat(20) + "1", -41, "1+".repeat(40), -41, "-".repeat(40), -41);
        TermEdges.faults("(" + "1+".repeat(19) + "1", -41, "(" + "1+".repeat(19) + "1)", -41, "1+".repeat(19) + "1x", -40);
        TermEdges.flows(forty, 9, "(" + "1-".repeat(18) + "-7)", 0);
        for (int p = 1; p < 40; p++) {
            String text = "-".repeat(p);
            Due.is("rule of " + text, Due.rule(new FullStopWells(), text), -1 - p);
        }
        eachSign("", "0123456789wdamvln", "-(");
        eachSign("1-", "0123456789wdamvln", "-(");
        eachSign("w", "", "<>=+-*/");
        eachSign("(w", ")", "<>=+-*/");
        eachSign("(w)", "", "<>=+-*/");
        eachSign("w<d", "", "+-*/");
        eachSign("12", "0123456789", "<>=+-*/");
        eachSign("123", "", "<>=+-*/");
    }

    /** Of all signs behind a text, some end a rule, some ask for more, all others can't stand there. */
    private static void eachSign(String ahead, String ends, String asksForMore) {
        for (char sign = 0; sign < 256; sign++) {
            int due = ends.indexOf(sign) >= 0 ? 0 : asksForMore.indexOf(sign) >= 0 ? -2 - ahead.length() : -1 - ahead.length();
            Due.is("rule of " + ahead + " and sign " + (int) sign, Due.rule(new FullStopWells(), ahead + sign), due);
        }
    }

    private static void looks() {
        Edge.test(7, "Of a WELL, what 0: FIELD, 1: WORDS, 2: 1 if MEANT, 3: ANDS, 4: WATER, 5: DEPTH, 6: FLOW now", PlainEdges::ofAWell);
        Edge.test(7, "7: VILLAGES that draw from it first, as all is (bits: those of which it is the nearest WELL with WATER now)",
            PlainEdges::drawers);
        Edge.test(7, "NoSuchElementException: none such, another what", PlainEdges::noSuchWell);
        Edge.test(8, "Of a VILLAGE, what 0: FIELD, 1: THIRST", PlainEdges::ofAVillage);
        Edge.test(8, "2: the nearest WELL with WATER now (of like ones the first; -1: none)", PlainEdges::nearestOfAVillage);
        Edge.test(8, "3: how FAR that is (-1)", PlainEdges::howFarItIs);
        Edge.test(8, "NoSuchElementException: likewise", PlainEdges::noSuchVillage);
    }

    private static void ofAWell() {
        FullStopWells x = TermEdges.made();
        x.ands(0);
        x.ands(1);
        x.ands(1);
        x.sheet(2, 2, 3, 9);
        int[][] due = {{1, 4, 1, 1, 3, 6, 4}, {7, 5, 0, 2, 12, 1, 0}};
        for (int i = 0; i < 2; i++) {
            for (int what = 0; what < 7; what++) {
                Due.is("well(" + i + ", " + what + ")", x.well(i, what), due[i][what]);
            }
        }
        Due.rule(x, "l/2+n");
        Due.is("FLOW now", x.well(0, 6), 1);
        x.seasons(1);
        Due.is("WATER then", x.well(1, 4), 15);
        Due.is("FLOW then", x.well(1, 6), 8);
    }

    private static void drawers() {
        FullStopWells x = TermEdges.made();
        Due.is("of a dry WELL", x.well(0, 7), 0);
        x.sheet(2, 2, 1, 0);
        Due.is("of like ones the first", x.well(0, 7), 3);
        Due.is("the others", x.well(1, 7), 4);
        x.sheet(2, 2, 0, 1);
        Due.is("of a dry WELL", x.well(0, 7), 0);
        Due.is("all", x.well(1, 7), 7);
        FullStopWells y = Due.made("33" + "111" + "111" + "...", "001.");
        y.sheet(2, 1, 1, 0);
        Due.is("six, though there is water for one", y.well(0, 7), 63);
        Due.is("of no VILLAGES", withWater().well(0, 7), 0);
    }

    private static FullStopWells withWater() {
        FullStopWells x = Due.made(TermEdges.BARE, "001.");
        x.sheet(2, 1, 5, 0);
        return x;
    }

    private static void noSuchWell() {
        FullStopWells x = TermEdges.made();
        int[][] wrong = {{2, 0}, {-1, 0}, {8, 0}, {TermEdges.LEAST, 0}, {TermEdges.GREATEST, 0}, {0, 8}, {0, -1}, {1, TermEdges.GREATEST},
            {1, TermEdges.LEAST}, {2, 8}};
        for (int[] one : wrong) {
            Due.throwsNoSuchElement("well(" + one[0] + ", " + one[1] + ")", () -> x.well(one[0], one[1]));
        }
        Due.is("the last one that there is", x.well(1, 7), 0);
        x.says(0, 1, 1);
        Due.is("one more", x.well(2, 0), 0);
        x.undo();
        Due.throwsNoSuchElement("well(2, 0) behind undo()", () -> x.well(2, 0));
    }

    private static void ofAVillage() {
        FullStopWells x = TermEdges.made();
        int[][] due = {{0, 2}, {4, 1}, {8, 3}};
        for (int i = 0; i < 3; i++) {
            Due.is("FIELD", x.village(i, 0), due[i][0]);
            Due.is("THIRST", x.village(i, 1), due[i][1]);
        }
    }

    private static void nearestOfAVillage() {
        FullStopWells x = TermEdges.made();
        int[][] due = {{0, 0, -1, -1, -1}, {1, 0, 0, 0, 0}, {0, 1, 1, 1, 1}, {1, 1, 0, 0, 1}};
        for (int[] one : due) {
            x.sheet(2, 2, one[0], one[1] - one[0]);
            for (int i = 0; i < 3; i++) {
                Due.is("nearest to " + i + " of WATER " + one[0] + " and " + one[1], x.village(i, 2), one[2 + i]);
            }
        }
        Due.is("without WELLS", Due.made(TermEdges.PLAIN, "").village(0, 2), -1);
    }

    private static void howFarItIs() {
        FullStopWells x = TermEdges.made();
        Due.is("none", x.village(2, 3), -1);
        x.sheet(2, 2, 1, 0);
        Due.is("the nearer one", x.village(2, 3), 1);
        x.draws(1, 1);
        Due.is("the farther one", x.village(2, 3), 3);
        x.says(8, 1, 1);
        x.sheet(2, 3, 1, 0);
        Due.is("on it", x.village(2, 3), 0);
        FullStopWells y = Due.made("66" + "1....." + "......".repeat(5), "551.");
        y.sheet(2, 1, 1, 0);
        Due.is("the farthest of all", y.village(0, 3), 10);
    }

    private static void noSuchVillage() {
        FullStopWells x = TermEdges.made();
        int[][] wrong = {{3, 0}, {-1, 0}, {6, 0}, {TermEdges.LEAST, 0}, {TermEdges.GREATEST, 0}, {0, 4}, {0, -1}, {2, TermEdges.GREATEST},
            {2, TermEdges.LEAST}, {3, 4}};
        for (int[] one : wrong) {
            Due.throwsNoSuchElement("village(" + one[0] + ", " + one[1] + ")", () -> x.village(one[0], one[1]));
        }
        Due.is("the last one that there is", x.village(2, 0), 8);
        Due.plain(x, "33" + "1........");
        Due.throwsNoSuchElement("village(1, 0) of one", () -> x.village(1, 0));
    }

    private static void sheet() {
        Edge.test(9, "WATER of WELLS 0, 1, .., as a sheet tells it: bytes (kind 0), shorts (1), ints (2) of n entries f, f + step, ..",
            PlainEdges::entries);
        Edge.test(9, "(of bytes, shorts the lowest bits, with their sign", PlainEdges::lowestBits);
        Edge.test(9, "put to 0 .. 99)", PlainEdges::putTo99);
        Edge.test(9, "or a missing one (3)", PlainEdges::missingSheet);
        Edge.test(9, "those behind it have 0", PlainEdges::behindTheSheet);
        Edge.test(9, "the sum of all that there are", PlainEdges::sumOfAll);
        Edge.test(9, "(entries beyond them are left aside)", PlainEdges::entriesBeyond);
        Edge.test(9, "-2: n below 0 (of kinds 0 .. 2; nothing changes)", PlainEdges::entriesBelowZero);
        Edge.test(9, "-3: missing (all 0)", PlainEdges::missingSheet);
        Edge.test(9, "NONE: another kind, n above 8 (these first)", PlainEdges::otherSheets);
    }

    private static void sheetGives(int kind, int f, int step, int... due) {
        FullStopWells x = Due.made(TermEdges.BARE, TermEdges.EIGHT);
        int sum = 0;
        for (int one : due) {
            sum += one;
        }
        String call = "sheet(" + kind + ", " + due.length + ", " + f + ", " + step + ")";
        Due.is(call, x.sheet(kind, due.length, f, step), sum);
        for (int i = 0; i < due.length; i++) {
            Due.is("WATER of " + i + " behind " + call, x.well(i, 4), due[i]);
        }
    }

    private static void entries() {
        for (int kind = 0; kind <= 2; kind++) {
            sheetGives(kind, 7, 10, 7, 17, 27, 37);
            sheetGives(kind, 40, -13, 40, 27, 14, 1);
            sheetGives(kind, 5, 0, 5, 5, 5, 5, 5, 5, 5, 5);
        }
        // ints go round
        sheetGives(2, TermEdges.GREATEST, 1, 99, 0, 0);
        sheetGives(2, -2, TermEdges.LEAST, 0, 99, 0, 99);
        sheetGives(2, 3, TermEdges.LEAST, 3, 0, 3, 0);
    }

    private static void lowestBits() {
        sheetGives(0, 126, 1, 99, 99, 0, 0);
        sheetGives(0, 254, 1, 0, 0, 0, 1, 2);
        sheetGives(0, -257, 1, 0, 0, 1);
        sheetGives(0, TermEdges.LEAST + 9, 256, 9, 9);
        sheetGives(1, 32766, 1, 99, 99, 0, 0);
        sheetGives(1, 65534, 1, 0, 0, 0, 1, 2);
        sheetGives(1, 261, 256, 99, 99);
        sheetGives(1, TermEdges.LEAST + 9, 65536, 9, 9);
        sheetGives(2, 65536, 1, 99, 99);
        sheetGives(2, 32768, 1, 99, 99);
        sheetGives(2, 128, 128, 99, 99);
    }

    private static void putTo99() {
        for (int kind = 0; kind <= 2; kind++) {
            sheetGives(kind, 98, 1, 98, 99, 99, 99);
            sheetGives(kind, 1, -1, 1, 0, 0, 0);
        }
        sheetGives(2, TermEdges.GREATEST, 0, 99);
        sheetGives(2, TermEdges.LEAST, 0, 0);
    }

    private static void missingSheet() {
        int[] entries = {0, 1, 8, -1, TermEdges.LEAST};
        for (int n : entries) {
            FullStopWells x = TermEdges.made();
            x.sheet(2, 2, 5, 0);
            Due.is("sheet(3, " + n + ", 7, 7)", x.sheet(3, n, 7, 7), -3);
            Due.is("WATER", x.count(6), 0);
            Due.is("WELLS that are dry", x.count(9), 3);
        }
        Due.is("of no WELLS", new FullStopWells().sheet(3, 0, 0, 0), -3);
    }

    private static void behindTheSheet() {
        for (int n = 0; n <= 3; n++) {
            FullStopWells x = Due.made(TermEdges.BARE, "001.;011.;021.");
            x.sheet(2, 3, 50, 0);
            Due.is("sheet of " + n, x.sheet(2, n, 7, 0), 7 * n);
            for (int i = 0; i < 3; i++) {
                Due.is("WATER of " + i, x.well(i, 4), i < n ? 7 : 0);
            }
        }
    }

    private static void sumOfAll() {
        FullStopWells x = Due.made(TermEdges.BARE, TermEdges.EIGHT);
        Due.is("eight of 99", x.sheet(2, 8, 99, 0), 792);
        Due.is("none told", x.sheet(2, 0, 99, 0), 0);
        Due.is("of no WELLS", new FullStopWells().sheet(2, 8, 99, 0), 0);
    }

    private static void entriesBeyond() {
        FullStopWells x = TermEdges.made();
        Due.is("eight for two", x.sheet(2, 8, 3, 1), 7);
        x.says(0, 1, 1);
        Due.is("WATER of a later one", x.well(2, 4), 0);
        Due.is("WATER", x.count(6), 7);
    }

    private static void entriesBelowZero() {
        for (int kind = 0; kind <= 2; kind++) {
            FullStopWells x = TermEdges.made();
            x.sheet(2, 2, 5, 1);
            String ahead = Seen.of(x);
            Due.is("-1", x.sheet(kind, -1, 7, 0), -2);
            Due.is("the least", x.sheet(kind, TermEdges.LEAST, 7, 0), -2);
            Due.is("all", Seen.of(x), ahead);
        }
    }

    private static void otherSheets() {
        FullStopWells x = TermEdges.made();
        x.sheet(2, 2, 5, 1);
        String ahead = Seen.of(x);
        int[][] others = {{-1, 1}, {4, 1}, {TermEdges.LEAST, 1}, {TermEdges.GREATEST, 1}, {4, -1}, {-1, -1}, {0, 9}, {1, 9}, {2, 9}, {3, 9},
            {2, TermEdges.GREATEST}, {3, TermEdges.GREATEST}};
        for (int[] one : others) {
            Due.is("sheet(" + one[0] + ", " + one[1] + ", 7, 7)", x.sheet(one[0], one[1], 7, 7), -1);
        }
        Due.is("all", Seen.of(x), ahead);
        Due.is("n 8", x.sheet(2, 8, 7, 0), 14);
    }
}
