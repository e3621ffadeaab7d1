/** Edges that promises 39 to 44 name. */
final class WaitEdges {
    private static final int[] WORTH_OTHERS = {-1, 21, TermEdges.LEAST, TermEdges.GREATEST};

    private WaitEdges() {
    }

    static void all() {
        waits();
        shares();
        squares();
        rests();
        law();
        years();
    }

    private static void waits() {
        Edge.test(39, "THE TEXT tells OFFERS, 1 to 16 digits", WaitEdges::offers);
        Edge.test(39, "one lets the first s of them go by, and takes the first one behind these that is more than each of these, "
            + "or else the last one of all", WaitEdges::takes);
        Edge.test(39, "the most that is had by any s (0: the first one is taken; .. all but one): how much", WaitEdges::mostByAny);
        Edge.test(39, "the ROW: the least such s, in which place (from 0 on) it is taken", WaitEdges::leastSuch);
        Edge.test(39, "-1 - p: the sign at p can't stand there (its end for none", WaitEdges::wrongOffers);
        Edge.test(39, "a seventeenth sign: at it)", WaitEdges::seventeenOffers);
    }

    private static void waitsOf(String offers, int much, int s, int place) {
        FullStopWells x = new FullStopWells();
        Due.row(x, "waits of " + offers, Due.waits(x, offers), much, s, place);
    }

    private static void offers() {
        for (int digit = 0; digit <= 9; digit++) {
            waitsOf("" + digit, digit, 0, 0);
        }
        waitsOf("0123456789012345", 9, 9, 9);
        waitsOf("0".repeat(16), 0, 0, 0);
        waitsOf("0".repeat(15) + "1", 1, 1, 15);
    }

    private static void takes() {
        // more than each, not as much
        waitsOf("5567", 7, 3, 3);
        // 8 goes by: 9 alone is more
        waitsOf("3829", 9, 2, 3);
        // by s 2 and 3 the last one is taken, as none is more than 7
        waitsOf("1732", 7, 1, 1);
        // by s 1 and 2 the last one is taken
        waitsOf("8127", 8, 0, 0);
        waitsOf("7218", 8, 1, 3);
    }

    private static void mostByAny() {
        waitsOf("95", 9, 0, 0);
        waitsOf("59", 9, 1, 1);
        waitsOf("9321", 9, 0, 0);
        // all but one go by
        waitsOf("3459", 9, 3, 3);
        waitsOf("1234567898123456", 9, 8, 8);
        waitsOf("8888888888888889", 9, 1, 15);
        waitsOf("2849", 9, 2, 3);
        waitsOf("1122", 2, 1, 2);
    }

    private static void leastSuch() {
        waitsOf("4444", 4, 0, 0);
        waitsOf("3339", 9, 1, 3);
        waitsOf("1339", 9, 2, 3);
        waitsOf("5000000000000000", 5, 0, 0);
        waitsOf("5000000000000005", 5, 0, 0);
        waitsOf("5000000000000006", 6, 1, 15);
    }

    private static void faultOfOffers(String offers, int due) {
        FullStopWells x = TermEdges.made();
        x.covers(0);
        String ahead = Seen.of(x);
        Due.row(x, "waits of " + offers, Due.waits(x, offers), due, 0, 4, 8);
        Due.is("all behind waits of " + offers, Seen.of(x), ahead);
    }

    private static void wrongOffers() {
        faultOfOffers("", -1);
        String good = "1234567890123456";
        for (int p = 0; p < 16; p++) {
            for (char sign : "x/: .-\0\u00b2".toCharArray()) {
                faultOfOffers(good.substring(0, p) + sign + good.substring(p + 1), -1 - p);
            }
        }
        faultOfOffers("5x", -2);
        faultOfOffers("xx", -1);
    }

    private static void seventeenOffers() {
        faultOfOffers("1".repeat(17), -17);
        faultOfOffers("1".repeat(16) + "x", -17);
        faultOfOffers("1".repeat(80), -17);
        faultOfOffers("1".repeat(15) + "x1", -16);
    }

    private static void shares() {
        Edge.test(40, "v (0 .. 99) of water is shared by VILLAGES so that none has more than its THIRST", WaitEdges::noneHasMore);
        Edge.test(40, "and the least that any has is the most, then the next, and so on", WaitEdges::leastIsTheMost);
        Edge.test(40, "what is over by one each goes to the first ones that still thirst: how much is shared", WaitEdges::whatIsOver);
        Edge.test(40, "the ROW: by VILLAGES how much", WaitEdges::rowOfShares);
        Edge.test(40, "NONE: another v", WaitEdges::otherShares);
    }

    private static void shared(String villages, int v, long... due) {
        FullStopWells x = Due.made("33" + villages, "");
        long sum = 0;
        for (long one : due) {
            sum += one;
        }
        Due.row(x, "shares(" + v + ") by " + villages, x.shares(v), sum, due);
    }

    private static void noneHasMore() {
        shared("123456...", 0, 0, 0, 0, 0, 0, 0);
        shared("123456...", 20, 1, 2, 3, 4, 5, 5);
        shared("123456...", 21, 1, 2, 3, 4, 5, 6);
        shared("123456...", 22, 1, 2, 3, 4, 5, 6);
        shared("123456...", 99, 1, 2, 3, 4, 5, 6);
        shared("666666...", 36, 6, 6, 6, 6, 6, 6);
        shared("666666...", 35, 6, 6, 6, 6, 6, 5);
        shared("666666...", 37, 6, 6, 6, 6, 6, 6);
    }

    private static void leastIsTheMost() {
        shared("161......", 3, 1, 1, 1);
        shared("161......", 5, 1, 3, 1);
        shared("614......", 7, 3, 1, 3);
        shared("614......", 9, 4, 1, 4);
        shared("614......", 10, 5, 1, 4);
        shared("654321...", 12, 3, 2, 2, 2, 2, 1);
    }

    private static void whatIsOver() {
        shared("333......", 1, 1, 0, 0);
        shared("333......", 2, 1, 1, 0);
        shared("333......", 4, 2, 1, 1);
        shared("333......", 5, 2, 2, 1);
        shared("133......", 4, 1, 2, 1);
        shared("313......", 4, 2, 1, 1);
        shared("133......", 6, 1, 3, 2);
    }

    private static void rowOfShares() {
        FullStopWells x = new FullStopWells();
        x.balance();
        Due.row(x, "of no VILLAGES", x.shares(99), 0);
        shared("........6", 99, 6);
        shared("........6", 5, 5);
        shared("2...1...3", 5, 2, 1, 2);
    }

    private static void otherShares() {
        FullStopWells x = TermEdges.made();
        x.covers(0);
        int[] others = {-1, 100, TermEdges.LEAST, TermEdges.GREATEST};
        for (int v : others) {
            Due.row(x, "shares(" + v + ")", x.shares(v), -1, 0, 4, 8);
        }
    }

    private static void squares() {
        Edge.test(41, "From n (0 .. 60) words two take by turns a square number (1, 4, 9, ..), no more than there are; "
            + "who takes the last has won: 1 if the first one wins by best play, else 0", WaitEdges::squaresByTurns);
        Edge.test(41, "the ROW: the least number that he takes (nothing, if he loses)", WaitEdges::leastSquare);
        Edge.test(41, "NONE: another n", WaitEdges::otherSquares);
    }

    /** The least square that leaves a number of words by which the other one loses; 0: there is none. */
    private static int winning(int n, int[] known) {
        for (int square = 1, root = 1; square <= n; root++, square = root * root) {
            if (known[n - square] == 0) {
                return square;
            }
        }
        return 0;
    }

    private static void squaresByTurns() {
        FullStopWells x = new FullStopWells();
        int[] known = new int[61];
        for (int n = 0; n <= 60; n++) {
            known[n] = winning(n, known);
            Due.is("squares(" + n + ")", x.squares(n), known[n] > 0 ? 1 : 0);
        }
        Due.is("of no words the first one loses", x.squares(0), 0);
        Due.is("of 1", x.squares(1), 1);
        Due.is("of 2", x.squares(2), 0);
    }

    private static void leastSquare() {
        FullStopWells x = new FullStopWells();
        int[] known = new int[61];
        for (int n = 0; n <= 60; n++) {
            known[n] = winning(n, known);
            x.balance();
            x.squares(n);
            Due.is("the ROW of " + n, Seen.row(x), known[n] > 0 ? "" + known[n] : "");
        }
        Due.row(x, "squares(4): all of it", x.squares(4), 1, 4);
        Due.row(x, "squares(8): 1, not 4", x.squares(8), 1, 1);
        Due.row(x, "squares(0)", x.squares(0), 0);
    }

    private static void otherSquares() {
        FullStopWells x = TermEdges.made();
        x.covers(0);
        int[] others = {-1, 61, TermEdges.LEAST, TermEdges.GREATEST};
        for (int n : others) {
            Due.row(x, "squares(" + n + ")", x.squares(n), -1, 0, 4, 8);
        }
    }

    private static void rests() {
        Edge.test(42, "Two talk for x and y (0 .. 9) words", WaitEdges::talks);
        Edge.test(42, "who says less is listened to, which is worth v (0 .. 20), both by half (cut) if like", WaitEdges::listenedTo);
        Edge.test(42, "each word is worth 1 to who says it, up to the sixth, and costs 1 from the seventh on", WaitEdges::worthOfWords);
        Edge.test(42, "Pairs by which neither would have more by another number alone: how many", WaitEdges::pairsAtRest);
        Edge.test(42, "the ROW: the least (nothing without)", WaitEdges::leastRest);
        Edge.test(42, "NONE: another v", WaitEdges::otherRests);
    }

    private static int worth(int mine, int other, int v) {
        int worth = mine < other ? v : mine == other ? v / 2 : 0;
        for (int word = 1; word <= mine; word++) {
            worth += word <= 6 ? 1 : -1;
        }
        return worth;
    }

    /** The pairs by each v, as texts: how many, then the least one. */
    private static String pairs(int v) {
        int[] most = new int[10];
        for (int other = 0; other <= 9; other++) {
            for (int mine = 0; mine <= 9; mine++) {
                most[other] = Math.max(most[other], worth(mine, other, v));
            }
        }
        int pairs = 0;
        String least = "";
        for (int x = 9; x >= 0; x--) {
            for (int y = 9; y >= 0; y--) {
                if (worth(x, y, v) == most[y] && worth(y, x, v) == most[x]) {
                    pairs++;
                    least = " " + x + " " + y;
                }
            }
        }
        return pairs + least;
    }

    private static void restsOf(int v, String due) {
        FullStopWells x = new FullStopWells();
        x.balance();
        int answer = x.rests(v);
        Due.is("rests(" + v + ")", (answer + " " + Seen.row(x)).trim(), due);
    }

    private static void talks() {
        for (int v = 0; v <= 20; v++) {
            restsOf(v, pairs(v));
        }
        // 0 is the least number of words, and the best one when to be listened to is worth much
        restsOf(12, "1 0 0");
        restsOf(20, "1 0 0");
    }

    private static void listenedTo() {
        restsOf(0, "1 6 6");
        // half of 1 is cut to 0
        restsOf(1, "3 5 6");
        restsOf(2, "4 5 5");
        restsOf(3, "0");
    }

    private static void worthOfWords() {
        // the sixth is worth 1, the seventh costs 1: so 6 alone is best where nothing else counts
        restsOf(0, "1 6 6");
        Due.is("the test's own worth of 6", worth(6, 0, 0), 6);
        Due.is("the test's own worth of 9", worth(9, 0, 0), 3);
    }

    private static void pairsAtRest() {
        restsOf(0, "1 6 6");
        restsOf(2, "4 5 5");
        // one would have 6 by 6 words when the other has 0, which is as much as half of 12
        restsOf(12, "1 0 0");
        restsOf(11, pairs(11));
    }

    private static void leastRest() {
        restsOf(1, "3 5 6");
        restsOf(3, "0");
        restsOf(4, pairs(4));
    }

    private static void otherRests() {
        FullStopWells x = TermEdges.made();
        x.covers(0);
        for (int v : WORTH_OTHERS) {
            Due.row(x, "rests(" + v + ")", x.rests(v), -1, 0, 4, 8);
        }
    }

    private static void law() {
        Edge.test(43, "THE TEXT is another RULE (an empty one: none)", WaitEdges::anotherRule);
        Edge.test(43, "PARCHED more in 10 SEASONS by it, nothing being done, less that by THE RULE", WaitEdges::inTenSeasons);
        Edge.test(43, "(below 0, too)", WaitEdges::lawBelowZero);
        Edge.test(43, "the ROW: both, by it first", WaitEdges::rowOfLaw);
        Edge.test(43, "-10000 - p: the sign at p can't stand there (as rule())", WaitEdges::wrongLaws);
    }

    private static void anotherRule() {
        FullStopWells x = TermEdges.made();
        Due.rule(x, "0");
        Due.row(x, "law of nothing", Due.law(x, ""), -20, 10, 30);
        Due.is("THE RULE stays", x.well(0, 6), 0);
        Due.row(x, "law of 1", Due.law(x, "1"), -10, 20, 30);
        Due.is("THE RULE stays", x.well(0, 6), 0);
        Due.rule(x, "");
        Due.row(x, "law of nothing beside none", Due.law(x, ""), 0, 10, 10);
    }

    private static void inTenSeasons() {
        FullStopWells x = Due.made("33" + "1........", "001.");
        Due.rule(x, "1");
        // WATER of 9 and of 10 by no FLOW
        x.sheet(2, 1, 9, 0);
        Due.row(x, "law of 0, of 9", Due.law(x, "0"), 1, 1, 0);
        x.sheet(2, 1, 10, 0);
        Due.row(x, "law of 0, of 10", Due.law(x, "0"), 0, 0, 0);
        x.sheet(2, 1, 0, 0);
        Due.row(x, "law of 0, of none", Due.law(x, "0"), 10, 10, 0);
        Due.is("SEASON", x.count(4), 0);
        Due.is("WATER", x.count(6), 0);
    }

    private static void lawBelowZero() {
        FullStopWells x = Due.made("33" + "111" + "111" + "...", "001.");
        Due.rule(x, "0");
        Due.row(x, "as far below 0 as can be", Due.law(x, "6"), -60, 0, 60);
        Due.row(x, "law of 5", Due.law(x, "5"), -50, 10, 60);
        Due.rule(x, "6");
        Due.row(x, "as far above 0", Due.law(x, "0"), 60, 60, 0);
        FullStopWells y = Due.made("33" + "1........", "001.");
        Due.rule(y, "0");
        y.sheet(2, 1, 9, 0);
        Due.row(y, "-1, which is no NONE", Due.law(y, "1"), -1, 0, 1);
    }

    private static void rowOfLaw() {
        FullStopWells x = TermEdges.made();
        Due.row(x, "law of 0", Due.law(x, "0"), 20, 30, 10);
        Due.row(x, "law of 9", Due.law(x, "9"), -10, 0, 10);
        FullStopWells y = new FullStopWells();
        Due.row(y, "of no VILLAGES", Due.law(y, "9"), 0, 0, 0);
        FullStopWells z = TermEdges.thirsty();
        z.seasons(60);
        Due.row(z, "those ahead are not told", Due.law(z, "9"), 0, 60, 60);
    }

    private static void wrongLaws() {
        String[] texts = {"x", "w+", "w<d<a", "(w", "(((((w", "1000", "1+".repeat(19) + "123", "1+".repeat(20), "-".repeat(80), ")"};
        int[] due = {-10000, -10002, -10003, -10002, -10004, -10003, -10040, -10040, -10040, -10000};
        for (int i = 0; i < texts.length; i++) {
            FullStopWells x = TermEdges.made();
            x.covers(0);
            String ahead = Seen.of(x);
            Due.row(x, "law of " + texts[i], Due.law(x, texts[i]), due[i], 0, 4, 8);
            Due.is("all behind law of " + texts[i], Seen.of(x), ahead);
        }
        FullStopWells y = TermEdges.made();
        Due.is("40 signs", Due.law(y, "1+".repeat(19) + "12"), -10);
    }

    private static void years() {
        Edge.test(44, "n times (1 .. 60)", WaitEdges::onceToSixtyTimes);
        Edge.test(44, "a DRAW of 4 tells: 0, 1: A SEASON", WaitEdges::drawnSeasons);
        Edge.test(44, "2: a DRAW of FIELDS one, a DRAW of 9 WORDS less 1, a DRAW of 2 whether it is MEANT: says()", WaitEdges::drawnSayings);
        Edge.test(44, "3: a DRAW of WELLS one: ands()", WaitEdges::drawnAnds);
        Edge.test(44, "(each if it can be", WaitEdges::drawnIfItCanBe);
        Edge.test(44, "3: nothing, no DRAW more, without WELLS)", WaitEdges::noDrawMore);
        Edge.test(44, "WATER of all together then; the ROW: WELLS, PARCHED more in these", WaitEdges::rowOfYears);
        Edge.test(44, "NONE: another n", WaitEdges::otherYears);
        Edge.test(44, "A DRAW of n: R = R times 1103515245 + 12345 (as ints; R is seed at first), (R without sign, by 65536) % n",
            WaitEdges::draws);
    }

    /** Numbers drawn by longs, as another way of going round. */
    private static final class Drawn {
        private long r;

        private Drawn(long seed) {
            r = seed & 0xffffffffL;
        }

        private int of(int n) {
            r = (r * 1103515245L + 12345L) % 4294967296L;
            return (int) (r / 65536 % n);
        }
    }

    /** Does on an object what years() would: by calls of the acts themselves. */
    private static String lived(FullStopWells x, int seed, int n) {
        Drawn drawn = new Drawn(seed);
        int ahead = x.count(5);
        for (int i = 0; i < n; i++) {
            int kind = drawn.of(4);
            if (kind < 2) {
                x.seasons(1);
            } else if (kind == 2) {
                int field = drawn.of(x.count(0) * x.count(1));
                int words = drawn.of(9) + 1;
                x.says(field, words, drawn.of(2));
            } else if (x.count(3) > 0) {
                x.ands(drawn.of(x.count(3)));
            }
        }
        return x.count(6) + " " + x.count(3) + " " + (x.count(5) - ahead);
    }

    private static void isAsLived(String plain, String wells, int seed, int n) {
        FullStopWells x = Due.made(plain, wells);
        String due = lived(Due.made(plain, wells), seed, n);
        Due.is("years(" + seed + ", " + n + ") of " + wells, x.years(seed, n) + " " + Seen.row(x), due);
    }

    private static void onceToSixtyTimes() {
        int[] seeds = {0, 1, -1, 12345, TermEdges.LEAST, TermEdges.GREATEST, 987654321};
        for (int seed : seeds) {
            for (int n = 1; n <= 60; n += n == 1 ? 1 : 2) {
                isAsLived(TermEdges.PLAIN, TermEdges.WELLS, seed, n);
            }
            isAsLived(TermEdges.PLAIN, TermEdges.WELLS, seed, 59);
        }
    }

    /** A seed by which the DRAWS of some numbers are those that are wanted. */
    private static int seedOf(int... ofAndDrawn) {
        for (int seed = 0; seed < 1000000; seed++) {
            Drawn drawn = new Drawn(seed);
            boolean all = true;
            for (int i = 0; i < ofAndDrawn.length && all; i += 2) {
                all = drawn.of(ofAndDrawn[i]) == ofAndDrawn[i + 1];
            }
            if (all) {
                return seed;
            }
        }
        throw new IllegalStateException("no such seed");
    }

    private static void drawnSeasons() {
        for (int kind = 0; kind <= 1; kind++) {
            FullStopWells x = TermEdges.made();
            Due.row(x, "a SEASON", x.years(seedOf(4, kind), 1), 3, 2, 1);
            Due.row(x, "two", x.years(seedOf(4, kind, 4, 1 - kind), 2), 6, 2, 2);
        }
    }

    private static void drawnSayings() {
        FullStopWells x = new FullStopWells();
        Due.rule(x, "w");
        Due.row(x, "9 WORDS, then a SEASON", x.years(seedOf(4, 2, 9, 0, 9, 8, 2, 0, 4, 0), 2), 9, 1, 0);
        Due.row(x, "1 word, then a SEASON", x.years(seedOf(4, 2, 9, 8, 9, 0, 2, 1, 4, 1), 2), 1, 1, 0);
        Due.rule(x, "m*3");
        Due.row(x, "MEANT", x.years(seedOf(4, 2, 9, 8, 9, 0, 2, 1, 4, 1), 2), 3, 1, 0);
        Due.row(x, "not", x.years(seedOf(4, 2, 9, 8, 9, 0, 2, 0, 4, 1), 2), 0, 1, 0);
        // on the first and on the last FIELD of 36: the village there drinks its fill
        FullStopWells y = Due.made("66" + "1" + ".".repeat(34) + "1", "");
        Due.rule(y, "(v>0)*2");
        Due.row(y, "FIELD 0", y.years(seedOf(4, 2, 36, 0, 9, 0, 2, 0, 4, 0), 2), 0, 1, 0);
        Due.row(y, "FIELD 35", y.years(seedOf(4, 2, 36, 35, 9, 0, 2, 0, 4, 0), 2), 0, 1, 0);
        Due.row(y, "FIELD 14", y.years(seedOf(4, 2, 36, 14, 9, 0, 2, 0, 4, 0), 2), 0, 1, 2);
    }

    private static void drawnAnds() {
        FullStopWells x = Due.made(TermEdges.BARE, "001.;011.;021.");
        Due.rule(x, "a*w");
        for (int well = 0; well < 3; well++) {
            Due.row(x, "an and, then a SEASON", x.years(seedOf(4, 3, 3, well, 4, 0), 2), 1, 3, 0);
        }
        Due.row(x, "two ands, then a SEASON", x.years(seedOf(4, 3, 3, 2, 4, 3, 3, 2, 4, 0), 3), 2, 3, 0);
    }

    private static void drawnIfItCanBe() {
        // on a FIELD with a WELL, and a ninth: all numbers are drawn, and nothing is said
        FullStopWells x = Due.made(TermEdges.BARE, "001.");
        int seed = seedOf(4, 2, 9, 0, 9, 4, 2, 1, 4, 0);
        Due.row(x, "on a WELL, then a SEASON", x.years(seed, 2), 9, 1, 0);
        FullStopWells y = Due.made(TermEdges.BARE, TermEdges.EIGHT);
        seed = seedOf(4, 2, 9, 8, 9, 4, 2, 1, 4, 0);
        Due.row(y, "a ninth, then a SEASON", y.years(seed, 2), 72, 8, 0);
        FullStopWells z = Due.made(TermEdges.BARE, "001.");
        Due.rule(z, "a");
        for (int i = 0; i < 9; i++) {
            z.ands(0);
        }
        seed = seedOf(4, 3, 1, 0, 4, 0);
        Due.row(z, "a tenth and, then a SEASON", z.years(seed, 2), 9, 1, 0);
        Due.rule(z, "a-5");
        Due.row(z, "a tenth and, then a SEASON", z.years(seed, 2), 4, 1, 0);
    }

    private static void noDrawMore() {
        FullStopWells x = new FullStopWells();
        Due.rule(x, "w");
        // the second DRAW tells the second time already
        int seed = seedOf(4, 3, 4, 2, 9, 5, 9, 6, 2, 0, 4, 1);
        Due.row(x, "nothing, says(), a SEASON", x.years(seed, 3), 7, 1, 0);
        Due.row(x, "nothing", x.years(seed, 1), 0, 0, 0);
    }

    private static void rowOfYears() {
        FullStopWells x = TermEdges.made();
        x.seasons(5);
        int seed = seedOf(4, 0, 4, 1);
        Due.row(x, "two SEASONS", x.years(seed, 2), 21, 2, 2);
        FullStopWells y = TermEdges.thirsty();
        for (int i = 0; i < 27; i++) {
            y.seasons(60);
        }
        y.seasons(46);
        Due.row(y, "up to 9999", y.years(seed, 2), 0, 0, 3);
        y.seasons(1);
        Due.row(y, "from 9999 on", y.years(seed, 2), 0, 0, 0);
        for (int i = 0; i < 40; i++) {
            isAsLived("33" + "6.6" + "..." + "6.6", "", 1000 * i - 7, 60);
            isAsLived(TermEdges.WIDE.replaceFirst("\\.", "3"), "001.;551,", -77 * i, 60);
        }
    }

    private static void otherYears() {
        FullStopWells x = TermEdges.made();
        x.covers(0);
        int[] others = {0, -1, 61, TermEdges.LEAST, TermEdges.GREATEST};
        for (int n : others) {
            Due.row(x, "years(5, " + n + ")", x.years(5, n), -1, 0, 4, 8);
        }
    }

    private static void draws() {
        // R of 0 is 12345: by 65536 it is 0, A SEASON
        FullStopWells x = TermEdges.made();
        Due.row(x, "years(0, 1)", x.years(0, 1), 3, 2, 1);
        // R is below 0 as an int: 4294967296 less, and it is drawn as if it were not
        int below = 0;
        for (int seed = 1; seed <= 60; seed++) {
            below += seed * 1103515245 + 12345 < 0 ? 1 : 0;
            isAsLived(TermEdges.PLAIN, TermEdges.WELLS, seed, 1);
            isAsLived(TermEdges.WIDE, "", -seed, 3);
        }
        Due.is("some of them", below > 10, true);
    }
}
