/** Promises 42 to 44: rests, rules, years. */
final class RestTest {
    private static final String PLAIN = "33" + "2.." + ".1." + "..3";
    private static final String WELLS = "014.;215,";

    private RestTest() {
    }

    private static void promise42() {
        FullStopWells x = new FullStopWells();
        Due.row(x, "rests(0)", x.rests(0), 1, 6, 6);
        // half of 1 is cut to 0: from 6 to 5 as much is had as is lost, but 5 and 5 is not at rest
        Due.row(x, "rests(1)", x.rests(1), 3, 5, 6);
        Due.row(x, "rests(2)", x.rests(2), 4, 5, 5);
        Due.row(x, "rests(3)", x.rests(3), 0);
        Due.row(x, "rests(12)", x.rests(12), 1, 0, 0);
        Due.row(x, "rests(20)", x.rests(20), 1, 0, 0);
        Due.row(x, "rests(21)", x.rests(21), -1, 0, 0);
        Due.row(x, "rests(-1)", x.rests(-1), -1, 0, 0);
    }

    private static void promise43() {
        FullStopWells x = Due.made(PLAIN, WELLS);
        Due.row(x, "law of 0", Due.law(x, "0"), 20, 30, 10);
        Due.row(x, "law of nothing", Due.law(x, ""), 0, 10, 10);
        Due.row(x, "law of 9", Due.law(x, "9"), -10, 0, 10);
        Due.is("the rule stays", x.well(0, 6), 6);
        Due.is("count(4)", x.count(4), 0);
        Due.is("count(13)", x.count(13), 0);
        Due.rule(x, "9");
        Due.row(x, "law of nothing is none, not the rule", Due.law(x, ""), 10, 10, 0);
        String[] wrong = {"x", "w+", "w<d<a", "1+1+1+1+1+1+1+1+1+1+1+1+1+1+1+1+1+1+1+12w", "w" + "+w".repeat(20)};
        int[] due = {-10000, -10002, -10003, -10040, -10040};
        for (int i = 0; i < wrong.length; i++) {
            Due.row(x, "law of " + wrong[i], Due.law(x, wrong[i]), due[i], 10, 0);
            Due.is("count(13)", x.count(13), 0);
        }
        Due.is("the rule stays", x.well(0, 6), 9);
    }

    private static void promise44() {
        FullStopWells x = Due.made(PLAIN, WELLS);
        x.balance();
        Due.row(x, "years(1, 0)", x.years(1, 0), -1, 7, 6);
        Due.row(x, "years(1, 61)", x.years(1, 61), -1, 7, 6);
        Due.row(x, "years(1, -1)", x.years(1, -1), -1, 7, 6);
        // seed 0: 12345 by 65536 is 0: a season
        Due.row(x, "years(0, 1)", x.years(0, 1), 3, 2, 1);
        Due.is("count(4)", x.count(4), 1);
        Due.is("count(11)", x.count(11), 0);
        long r = 7;
        int kind = 0;
        // by longs, as another way of going round: the first seed from 7 on whose first draw says something
        for (int seed = 7; kind != 2; seed++) {
            r = next(seed);
            kind = (int) (r / 65536 % 4);
            if (kind == 2) {
                FullStopWells y = new FullStopWells();
                long field = next(r);
                long words = next(field);
                long meant = next(words);
                Due.row(y, "years(" + seed + ", 1)", y.years(seed, 1), 0, 1, 0);
                Due.is("field", y.well(0, 0), field / 65536 % 9);
                Due.is("words", y.well(0, 1), words / 65536 % 9 + 1);
                Due.is("meant", y.well(0, 2), meant / 65536 % 2);
            }
        }
        FullStopWells many = Due.made("33" + "6.6" + "..." + "6.6", "");
        int ahead = 0;
        for (int seed = -40; seed < 0; seed++) {
            many.years(seed, 60);
            Due.is("wells", many.row(0), many.count(3));
            Due.is("parched more", many.row(1), many.count(5) - ahead);
            ahead = many.count(5);
        }
        Due.is("8 in the end", many.count(3), 8);
        Due.is("9 ands in each", many.count(8), 72);
    }

    private static long next(long r) {
        return (r * 1103515245L + 12345L) & 0xffffffffL;
    }

    public static void main(String[] args) {
        promise42();
        promise43();
        promise44();
        Due.end("promises 42 to 44");
    }
}
