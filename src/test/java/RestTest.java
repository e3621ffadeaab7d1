/** Promises 42 to 44: rests, rules, years. */
final class RestTest {
    private static final String PLAIN = "33" + "2.." + ".1." + "..3";
    private static final String WELLS = "014.;215,";

    private RestTest() {
    }

    private static void promise42() {
        FullStopWells x = new FullStopWells();
        Due.row(x, "rests(0)", x.rests(0), 1, 6, 6);
        // half of 1 is cut to 0: from 6 to 5 as much is had as is lost, but 5 and 5 is not at rest
        Due.row(x, "rests(1)", x.rests(1), 3, 5, 6);
        Due.row(x, "rests(2)", x.rests(2), 4, 5, 5);
        Due.row(x, "rests(3)", x.rests(3), 0);
        Due.row(x, "rests(12)", x.rests(12), 1, 0, 0);
        Due.row(x, "rests(20)", x.rests(20), 1, 0, 0);
        Due.row(x, "rests(21)", x.rests(21), -1, 0, 0);
        Due.row(x, "rests(-1)", x.rests(-1), -1, 0, 0);
    }

    private static void promise43() {
        FullStopWells x = Due.made(PLAIN, WELLS);
        Due.row(x, "law of 0", Due.law(x, "0"), 20, 30, 10);
        Due.row(x, "law of nothing", Due.law(x, ""), 0, 10, 10);
        Due.row(x, "law of 9", Due.law(x, "9"), -10, 0, 10);
        Due.is("the rule stays", x.well(0, 6), 6);
        Due.is("count(4)", x.count(4), 0);
        Due.is("count(13)", x.count(13), 0);
        Due.rule(x, "9");
        Due.row(x, "law of nothing is none, not the rule", Due.law(x, ""), 10, 10, 0);
        String[] wrong = {"x", "w+", "w<d<a", "1+1+1+1+1+1+1+1+1+1+1+1+1+1+1+1+1+1+1+12w", "w" + "+w".repeat(20)};
        int[] due = {-10000, -10002, -10003, -10040, -10040};
        for (int i = 0; i < wrong.length; i++) {
            Due.row(x, "law of " + wrong[i], Due.law(x, wrong[i]), due[i], 10, 0);
            Due.is("count(13)", x.count(13), 0);
        }
        Due.is("the rule stays", x.well(0, 6), 9);
    }

    private static void promise44() {
        FullStopWells x = Due.made(PLAIN, WELLS);
        x.balance();
        Due.row(x, "years(1, 0)", x.years(1, 0), -1, 7, 6);
        Due.row(x, "years(1, 61)", x.years(1, 61), -1, 7, 6);
        Due.row(x, "years(1, -1)", x.years(1, -1), -1, 7, 6);
        // seed 0: 12345 by 65536 is 0: a season
        Due.row(x, "years(0, 1)", x.years(0, 1), 3, 2, 1);
        Due.row(x, "years(0, 1) once more", x.years(0, 1), 3, 2, 1);
        for (int n = 1; n <= 60; n++) {
            changesNothing(x, 7 * n, n);
        }
        drawsSayings();
        toEightWells();
        upToTheMostParched();
    }

    private static void changesNothing(FullStopWells x, int seed, int n) {
        x.years(seed, n);
        int[] due = {3, 3, 3, 2, 0, 0, 0, 6, 0, 3, 0, 0, 2, 0};
        for (int what = 0; what < due.length; what++) {
            Due.is("count(" + what + ") behind years(" + seed + ", " + n + ")", x.count(what), due[what]);
        }
        int[] wells = {1, 4, 1, 0, 0, 6, 6, 0, 7, 5, 0, 0, 0, 1, 1, 0};
        for (int i = 0; i < wells.length; i++) {
            Due.is("well(" + i / 8 + ", " + i % 8 + ") behind years()", x.well(i / 8, i % 8), wells[i]);
        }
    }

    /** By longs, as another way of going round: seeds whose first draw says something on a plain without wells. */
    private static void drawsSayings() {
        int said = 0;
        for (int seed = -20; seed < 60; seed++) {
            long r = next(seed);
            if (r / 65536 % 4 != 2) {
                continue;
            }
            said++;
            long field = next(r) / 65536 % 9;
            long words = next(next(r)) / 65536 % 9 + 1;
            long meant = next(next(next(r))) / 65536 % 2;
            long second = next(next(next(next(r)))) / 65536 % 4;
            FullStopWells y = new FullStopWells();
            Due.row(y, "years(" + seed + ", 1)", y.years(seed, 1), 0, 1, 0);
            Due.is("count(3)", y.count(3), 0);
            if (second <= 1) {
                Due.rule(y, "w");
                Due.is("words drawn by " + seed, y.years(seed, 2), words);
                Due.rule(y, "m");
                Due.is("meant drawn by " + seed, y.years(seed, 2), meant);
            }
            y.says((int) field, 1, 1);
            Due.row(y, "said on the field of " + seed + " already", y.years(seed, 1), 0, 1, 0);
        }
        Due.is("seeds that say something", said > 5, true);
    }

    private static void toEightWells() {
        FullStopWells x = Due.made("33" + "6.6" + "..." + "6.6", "");
        int most = 0;
        for (int seed = -40; seed < 0; seed++) {
            x.years(seed, 60);
            most = Math.max(most, (int) x.row(0));
            Due.is("wells behind years()", x.count(3), 0);
        }
        Due.is("8 at most", most, 8);
    }

    private static void upToTheMostParched() {
        FullStopWells x = Due.made("33" + "666" + "666" + "...", "");
        Due.rule(x, "0");
        for (int i = 1; i <= 27; i++) {
            x.seasons(60);
        }
        for (int i = 1; i <= 46; i++) {
            x.seasons(1);
        }
        Due.is("count(5)", x.count(5), 9996);
        x.years(3, 60);
        Due.is("parched more up to 9999", x.row(1), 3);
        Due.is("count(5)", x.count(5), 9996);
    }

    private static long next(long r) {
        return (r * 1103515245L + 12345L) & 0xffffffffL;
    }

    public static void main(String[] args) {
        promise42();
        promise43();
        promise44();
        Due.end("promises 42 to 44");
    }
}
