import java.util.function.Consumer;
import java.util.function.ToLongFunction;

/** Edges that the Terms name of answers: the ROW, refused calls, NONE, questions. */
final class AnswerEdges {
    private AnswerEdges() {
    }

    static void all() {
        Edge.test(0, "ROW: numbers told last by a call that says so", AnswerEdges::callsWithoutARow);
        Edge.test(0, "Rows of numbers are compared from the first on", AnswerEdges::leastRows);
        Edge.test(0, "Sets (of WELLS, VILLAGES, FIELDS) are bits", AnswerEdges::sets);
        Edge.test(0, "Fractions are told in lowest terms, upper and lower number (0 by 1)", AnswerEdges::fractions);
        Edge.test(0, "Questions change nothing", AnswerEdges::questionsChangeNothing);
        Edge.test(0, "Refused calls answer NONE, or false, and change nothing", AnswerEdges::refusedCallsChangeNothing);
        Edge.test(0, "but THE TEXT, which a call that can read it empties, whatever it answers", AnswerEdges::readersEmptyTheText);
        Edge.test(0, "NONE is asked ahead of other answers below 0", AnswerEdges::noneIsFirst);
        Edge.test(0, "(what a TEXT tells wrongly aside)", AnswerEdges::wrongTexts);
        Edge.test(0, "The ROW stays with NONE", AnswerEdges::rowStaysWithNone);
        Edge.test(0, "and with each number below 0 that tells why there is no answer (-2, -3 ..)", AnswerEdges::rowStaysWithWhy);
        Edge.test(0, "a number below 0 that is meant as such (below 0, too) comes with its ROW", AnswerEdges::meantAsSuch);
    }

    /** The row of covers(0) of the villages' own fields. */
    private static FullStopWells withRow() {
        FullStopWells x = TermEdges.made();
        x.covers(0);
        return x;
    }

    private static void rowStays(String call, Consumer<FullStopWells> run) {
        FullStopWells x = withRow();
        x.seasons(3);
        x.ands(0);
        x.keep(0);
        x.covers(0);
        run.accept(x);
        Due.is("the ROW behind " + call, Seen.row(x), "0 4 8");
    }

    private static void callsWithoutARow() {
        Due.is("the ROW at first", new FullStopWells().count(12), 0);
        rowStays("sign", x -> x.sign(1));
        rowStays("end", x -> x.end(0));
        rowStays("plain", x -> Due.plain(x, TermEdges.BARE));
        rowStays("wells", x -> Due.wells(x, "221."));
        rowStays("rule", x -> Due.rule(x, "w"));
        rowStays("well", x -> x.well(0, 7));
        rowStays("village", x -> x.village(0, 2));
        rowStays("sheet", x -> x.sheet(2, 2, 5, 5));
        rowStays("sheet, missing", x -> x.sheet(3, 0, 0, 0));
        rowStays("says", x -> x.says(0, 1, 1));
        rowStays("ands", x -> x.ands(0));
        rowStays("clears", x -> x.clears(0));
        rowStays("draws", x -> x.draws(0, 1));
        rowStays("repents", x -> x.repents(0));
        rowStays("undo", x -> x.undo());
        rowStays("heard", x -> x.heard(0, 1));
        rowStays("forget", x -> x.forget());
        rowStays("keep", x -> x.keep(1));
        rowStays("again", x -> x.again(0));
        rowStays("count", x -> x.count(12));
        rowStays("row", x -> x.row(0));
    }

    /** The row that has the least first number is the least, whatever its last ones are. */
    private static void leastRows() {
        FullStopWells x = Due.made("33" + "..." + "..1" + "1.1", "");
        // 3 and 5 would do, too
        Due.row(x, "covers(1)", x.covers(1), 2, 2, 7);
        FullStopWells y = Due.made("44" + ".".repeat(16), "121.;201.;101.;301.;221.;111.;211.");
        // over 5 and 2 it is as near
        Due.row(y, "route(0, 1, 1)", y.route(0, 1, 1), 4, 0, 4, 6, 1);
        FullStopWells z = Due.made(TermEdges.BARE, "001.;211.;221.;011.");
        // 1 and 2 are as near
        Due.row(z, "twins()", z.twins(), 1, 0, 3);
        FullStopWells w = Due.made(TermEdges.BARE, "001.;021.;201.;221.;111.");
        // 1 and 2 are as far
        Due.row(w, "reach()", w.reach(), 2, 0, 3, 4);
        // 6 and 5 are at rest, too
        Due.row(w, "rests(1)", w.rests(1), 3, 5, 6);
    }

    private static void sets() {
        FullStopWells x = TermEdges.made();
        x.sheet(2, 2, 0, 5);
        Due.is("WELLS that are dry", x.count(9), 1);
        x.sheet(2, 2, 5, -5);
        Due.is("WELLS that are dry", x.count(9), 2);
        Due.is("VILLAGES", x.well(0, 7), 7);
        x.sheet(2, 2, 5, 0);
        Due.is("VILLAGES", x.well(1, 7), 4);
        x.heard(1, 0);
        Due.is("WELLS that fit", x.fits(), 2);
        FullStopWells y = Due.made(TermEdges.WIDE, "001.");
        Due.is("FIELDS, more than 32 of them", y.dry(0), (1L << 36) - 2);
        FullStopWells z = Due.made(TermEdges.BARE, TermEdges.EIGHT);
        Due.is("all WELLS", z.count(9), 255);
        Due.is("all WELLS", z.fits(), 255);
    }

    private static void fractions() {
        FullStopWells x = new FullStopWells();
        Due.row(x, "0 by 1", x.meant(0, 5, 5, 1, 1), 0, 0, 1);
        Due.row(x, "0 by 1", x.meant(5, 0, 5, 1, 1), 0, 0, 1);
        Due.row(x, "1 by 1", x.meant(10, 5, 5, 1, 1), 0, 1, 1);
        Due.row(x, "5 by 10", x.meant(5, 5, 5, 0, 0), 0, 1, 2);
        Due.row(x, "6 by 10", x.meant(6, 5, 5, 0, 0), 0, 3, 5);
        Due.row(x, "7 by 10", x.meant(7, 5, 5, 0, 0), 0, 7, 10);
    }

    private static void changesNothing(String question, ToLongFunction<FullStopWells> ask) {
        FullStopWells x = Due.made(TermEdges.PLAIN, "014.;215,;202.");
        Due.rule(x, "d+n-a*2");
        x.keep(1);
        x.seasons(2);
        x.ands(0);
        x.heard(0, 4);
        x.keep(0);
        x.sheet(2, 3, 3, 4);
        x.sign(0x31323334);
        String ahead = Seen.of(x);
        long answer = ask.applyAsLong(x);
        Due.is(question + " has an answer", answer >= 0, true);
        Due.is("all behind " + question, Seen.of(x), ahead);
        Due.is("THE TEXT behind " + question, Seen.signs(x), 4);
        // what is kept, what can be undone and THE TEXT are the same
        Due.is("waits() behind it", x.waits(), 4);
        Due.is("undo() behind it", x.undo(), 1);
        Due.is("ANDS behind it", x.count(8), 0);
        x.again(0);
        Due.is("ANDS kept", x.count(8), 1);
        x.again(1);
        Due.is("SEASON kept", x.count(4), 0);
    }

    private static void questionsChangeNothing() {
        changesNothing("well", x -> x.well(0, 6) + x.well(1, 7));
        changesNothing("village", x -> x.village(0, 2));
        changesNothing("later", x -> x.later(0, 99));
        changesNothing("parched", x -> x.parched(2) + 2);
        changesNothing("drinks", x -> x.drinks(1, 99));
        changesNothing("rises", x -> x.rises(0, 20) + 2);
        changesNothing("richest", x -> x.richest(99));
        changesNothing("balance", x -> x.balance());
        changesNothing("covers", x -> x.covers(1));
        changesNothing("best", x -> x.best(3, 30));
        changesNothing("longest", x -> x.longest(8, 2, 30) + 2);
        changesNothing("dearest", x -> x.dearest(30));
        changesNothing("bears", x -> x.bears(0, 30));
        changesNothing("twins", x -> x.twins());
        changesNothing("route", x -> x.route(0, 2, 3));
        changesNothing("reach", x -> x.reach());
        changesNothing("square", x -> x.square());
        changesNothing("dry", x -> x.dry(1));
        changesNothing("fits", x -> x.fits());
        changesNothing("asks", x -> x.asks());
        changesNothing("meant", x -> x.meant(5, 6, 7, 3, 2));
        changesNothing("shares", x -> x.shares(5));
        changesNothing("squares", x -> x.squares(60));
        changesNothing("rests", x -> x.rests(2));
        changesNothing("years", x -> x.years(77, 60));
        changesNothing("count", x -> x.count(9));
        changesNothing("row", x -> x.balance() + x.row(0));
        // these read THE TEXT: it alone is new
        FullStopWells x = TermEdges.made();
        x.seasons(2);
        String ahead = Seen.of(x);
        Due.is("law has an answer", Due.law(x, "w*2+n") > -10000, true);
        Due.is("all behind law", Seen.of(x), ahead);
        Due.waits(x, "12345");
        Due.is("all behind waits", Seen.of(x), ahead);
    }

    private static void refused(String call, ToLongFunction<FullStopWells> run) {
        FullStopWells x = Due.made(TermEdges.BARE, TermEdges.EIGHT);
        for (int i = 0; i < 13; i++) {
            x.heard(0, 1);
        }
        for (int i = 0; i < 10; i++) {
            x.ands(2);
        }
        x.sheet(2, 8, 1, 1);
        x.balance();
        x.sign(0x31323334);
        String ahead = Seen.of(x);
        String row = Seen.row(x);
        Due.is(call, run.applyAsLong(x), -1);
        Due.is("all behind " + call, Seen.of(x), ahead);
        Due.is("the ROW behind " + call, Seen.row(x), row);
        Due.is("THE TEXT behind " + call, Seen.signs(x), 4);
    }

    private static long orNone(boolean answer) {
        return answer ? 1 : -1;
    }

    private static void refusedCallsChangeNothing() {
        refused("end(5)", x -> orNone(x.end(5)));
        refused("end(-1)", x -> orNone(x.end(-1)));
        refused("sheet(4, 0, 0, 0)", x -> x.sheet(4, 0, 0, 0));
        refused("sheet(0, 9, 0, 0)", x -> x.sheet(0, 9, 0, 0));
        refused("sheet(3, 9, 0, 0)", x -> x.sheet(3, 9, 0, 0));
        refused("seasons(61)", x -> x.seasons(61));
        refused("seasons(-1)", x -> x.seasons(-1));
        refused("says(9, 1, 1)", x -> x.says(9, 1, 1));
        refused("ands(8)", x -> x.ands(8));
        refused("clears(8)", x -> x.clears(8));
        refused("draws(8, 1)", x -> x.draws(8, 1));
        refused("draws(0, 0)", x -> x.draws(0, 0));
        refused("repents(8)", x -> x.repents(8));
        refused("heard of a thirteenth", x -> x.heard(1, 1));
        refused("heard(5, 1)", x -> x.heard(5, 1));
        refused("years(1, 0)", x -> x.years(1, 0));
        refused("years(1, 61)", x -> x.years(1, 61));
        refused("keep(2)", x -> orNone(x.keep(2)));
        refused("keep(-1)", x -> orNone(x.keep(-1)));
        refused("again(0)", x -> orNone(x.again(0)));
        refused("again(2)", x -> orNone(x.again(2)));
        refused("count(14)", x -> x.count(14));
        FullStopWells x = new FullStopWells();
        Due.is("undo()", x.undo(), -1);
        Due.is("all behind undo()", Seen.of(x), Seen.of(new FullStopWells()));
        for (int i = 0; i < 20; i++) {
            x.sign(0x35353535);
        }
        Due.is("sign() of too many", x.sign(0x39393939), -1);
        Due.is("signs", Seen.signs(x), 80);
        x.end(16);
        Due.is("THE TEXT behind sign()", x.waits(), 5);
    }

    private static void isEmptied(String call, String text, long due, ToLongFunction<FullStopWells> run) {
        FullStopWells x = TermEdges.made();
        Due.tell(x, text);
        Due.is(call + " of " + text, run.applyAsLong(x), due);
        Due.is("THE TEXT behind " + call + " of " + text, Seen.signs(x), 0);
    }

    private static void readersEmptyTheText() {
        isEmptied("plain", TermEdges.BARE, 9, x -> x.plain());
        isEmptied("plain", "34", -3, x -> x.plain());
        isEmptied("wells", "001.", 1, x -> x.wells());
        isEmptied("wells", "001.;", -6, x -> x.wells());
        isEmptied("rule", "w", 0, x -> x.rule());
        isEmptied("rule", "ww", -2, x -> x.rule());
        isEmptied("year", "n1", 1, x -> x.year());
        isEmptied("year", "c0", 0, x -> x.year());
        isEmptied("year", "n", -2, x -> x.year());
        isEmptied("waits", "5", 5, x -> x.waits());
        isEmptied("waits", "5x", -2, x -> x.waits());
        isEmptied("law", "d-a*2", 0, x -> x.law());
        isEmptied("law", "d-", -10002, x -> x.law());
        FullStopWells x = TermEdges.made();
        x.sign(0x3335352E);
        x.plain();
        Due.is("sign() behind it begins anew", x.sign(0), 4);
    }

    private static void noneIsFirst() {
        FullStopWells x = Due.made(TermEdges.BARE, TermEdges.EIGHT);
        Due.is("says on a WELL", x.says(0, 10, 1), -1);
        Due.is("says a ninth", x.says(8, 1, 2), -1);
        Due.is("draws of a dry one", x.draws(0, 100), -1);
        Due.is("sheet of n below 0", x.sheet(4, -1, 0, 0), -1);
        Due.is("sheet, missing", x.sheet(3, 9, 0, 0), -1);
        Due.is("best of 8 WELLS", x.best(10, 1), -1);
        Due.is("best of 8 WELLS", x.best(1, 31), -1);
        Due.is("longest of 8 WELLS, no VILLAGE", x.longest(8, 0, 1), -1);
        Due.is("route that is not there", x.route(0, 8, 0), -1);
        FullStopWells none = new FullStopWells();
        Due.is("richest of no WELLS", none.richest(100), -1);
        Due.is("richest of no WELLS", none.richest(-1), -1);
        Due.is("dearest of no WELLS", none.dearest(0), -1);
        Due.is("dearest of no WELLS", none.dearest(31), -1);
        Due.is("meant that can't be", none.meant(11, 10, 10, 1, 0), -1);
        Due.is("meant that can't be", none.meant(5, 10, 10, 8, 0), -1);
        FullStopWells full = Due.made("33" + "1........", TermEdges.EIGHT);
        Due.is("longest on a WELL", full.longest(0, 0, 31), -1);
        Due.is("longest on a WELL", full.longest(0, 1, 1), -1);
        Due.is("longest of 8 WELLS", full.longest(9, 0, 1), -1);
    }

    /** A text's first sign that can't stand is told by -1 - p: of p 0 that is -1, and yet no refused call. */
    private static void wrongTexts() {
        FullStopWells x = TermEdges.made();
        Due.is("plain", Due.plain(x, "x"), -1);
        Due.is("plain", Due.plain(x, "3x"), -2);
        Due.is("wells", Due.wells(x, "0x"), -2);
        Due.is("wells", Due.wells(x, "00x"), -3);
        Due.is("rule", Due.rule(x, "wx"), -2);
        Due.is("rule", Due.rule(x, "w+x"), -3);
        Due.is("year", Due.year(x, "nx"), -2);
        Due.is("waits", Due.waits(x, "11x"), -3);
        Due.is("law", Due.law(x, "x"), -10000);
    }

    private static void staysWithNone(String call, ToLongFunction<FullStopWells> run) {
        FullStopWells x = withRow();
        Due.is(call, run.applyAsLong(x), -1);
        Due.is("the ROW behind " + call, Seen.row(x), "0 4 8");
    }

    private static void rowStaysWithNone() {
        staysWithNone("seasons", x -> x.seasons(61));
        staysWithNone("later", x -> x.later(2, 1));
        staysWithNone("parched", x -> x.parched(3));
        staysWithNone("drinks", x -> x.drinks(0, 0));
        staysWithNone("rises", x -> x.rises(0, 100));
        staysWithNone("richest", x -> x.richest(100));
        staysWithNone("covers", x -> x.covers(11));
        staysWithNone("best", x -> x.best(0, 1));
        staysWithNone("longest", x -> x.longest(0, 0, 31));
        staysWithNone("dearest", x -> x.dearest(31));
        staysWithNone("bears", x -> x.bears(0, 31));
        staysWithNone("route", x -> x.route(0, 1, 11));
        staysWithNone("dry", x -> x.dry(11));
        staysWithNone("meant", x -> x.meant(11, 5, 5, 0, 0));
        staysWithNone("shares", x -> x.shares(100));
        staysWithNone("squares", x -> x.squares(61));
        staysWithNone("rests", x -> x.rests(21));
        staysWithNone("years", x -> x.years(1, 61));
    }

    private static void staysWithWhy(String call, long due, String plain, String wells, ToLongFunction<FullStopWells> run) {
        FullStopWells x = withRow();
        Due.plain(x, plain);
        Due.wells(x, wells);
        Due.is(call, run.applyAsLong(x), due);
        Due.is("the ROW behind " + call, Seen.row(x), "0 4 8");
    }

    private static void rowStaysWithWhy() {
        staysWithWhy("year", -2, TermEdges.PLAIN, "", x -> Due.year(x, "n"));
        staysWithWhy("parched", -2, "33" + "1........", "001.", x -> x.parched(0));
        staysWithWhy("rises", -2, "33" + "6........", "004.", x -> x.rises(0, 1));
        staysWithWhy("richest", -2, TermEdges.PLAIN, "", x -> x.richest(1));
        staysWithWhy("best", -2, TermEdges.BARE, TermEdges.EIGHT, x -> x.best(1, 1));
        staysWithWhy("longest, in none", -2, "33" + "6.......6", "", x -> x.longest(0, 1, 30));
        staysWithWhy("longest, a WELL on it", -3, "33" + "6.......6", "001.", x -> x.longest(0, 1, 30));
        staysWithWhy("longest, 8 of them", -3, "33" + "6.......6", TermEdges.EIGHT, x -> x.longest(8, 1, 30));
        staysWithWhy("dearest", -2, TermEdges.PLAIN, "", x -> x.dearest(1));
        staysWithWhy("twins", -2, TermEdges.PLAIN, "001.", x -> x.twins());
        staysWithWhy("route", -2, TermEdges.PLAIN, "001.;021.", x -> x.route(0, 1, 1));
        staysWithWhy("reach", -2, TermEdges.PLAIN, "001.", x -> x.reach());
        staysWithWhy("asks", -2, TermEdges.PLAIN, "", x -> x.asks());
        staysWithWhy("meant", -2, TermEdges.PLAIN, "", x -> x.meant(5, 0, 0, 1, 1));
        staysWithWhy("waits", -1, TermEdges.PLAIN, "", x -> Due.waits(x, ""));
        staysWithWhy("law", -10001, TermEdges.PLAIN, "", x -> Due.law(x, "-"));
    }

    private static void meantAsSuch() {
        FullStopWells x = TermEdges.made();
        // the ROW is another one than that of covers()
        x.covers(0);
        Due.row(x, "law of 9", Due.law(x, "9"), -10, 0, 10);
        Due.rule(x, "0");
        // in each fourth SEASON none is parched, in the one behind it two are, then all are
        Due.row(x, "law of (n=0)*w", Due.law(x, "(n=0)*w"), -12, 18, 30);
    }
}
