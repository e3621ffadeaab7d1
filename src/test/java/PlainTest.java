/** Promises 1 to 9: the plain, wells. */
final class PlainTest {
    private static final String PLAIN = "33" + "2.." + ".1." + "..3";

    // Four factors of 999 are more than an int holds; Java's ints go round as the rule's do.
    private static final int WRAPPED = Math.max(0, Math.min(9, 999 * 999 * 999 * 999 / 999 / 999 / 100));

    private PlainTest() {
    }

    private static void promise1() {
        FullStopWells x = new FullStopWells();
        long[] due = {3, 3, 0, 0, 0, 0, 0, 0, 0, 0, 0, 0, 0, 0};
        for (int what = 0; what < due.length; what++) {
            Due.is("new count(" + what + ")", x.count(what), due[what]);
        }
        Due.is("NONE", FullStopWells.NONE, -1);
        Due.is("new wells have the rule d-a*2: says", x.says(4, 3, 1), 0);
        Due.is("flow of it", x.well(0, 6), 7);
    }

    private static void promise2() {
        FullStopWells x = new FullStopWells();
        for (int i = 1; i <= 20; i++) {
            Due.is("sign " + i, x.sign(-1), 4 * i);
        }
        Due.is("sign, the 21st", x.sign(0), -1);
        Due.is("count(13)", x.count(13), 80);
        x.end(77);
        Due.is("sign behind 77", x.sign(0), -1);
        Due.is("count(13)", x.count(13), 77);
        x.end(76);
        Due.is("sign behind 76", x.sign(0), 80);
        x.end(0);
        // '3' '3' '.' '.' and the highest byte first: 33...1... with the rest
        x.sign(0x33332E2E);
        x.sign(0x2E312E2E);
        x.sign(0x2E2E2E2E);
        x.end(11);
        Due.is("plain", x.plain(), 9);
        Due.is("village(0, 0)", x.village(0, 0), 3);
        // a byte above 127 is a sign as any other, and can't stand
        x.sign(0x80FF0000);
        Due.is("plain of sign 128", x.plain(), -1);
    }

    private static void promise3() {
        FullStopWells x = new FullStopWells();
        Due.is("end(0) of nothing", x.end(0), true);
        Due.is("end(1) of nothing", x.end(1), false);
        Due.is("end(-1)", x.end(-1), false);
        x.sign(0x61626364);
        Due.is("end(5)", x.end(5), false);
        Due.is("end(-1)", x.end(Integer.MIN_VALUE), false);
        Due.is("count(13)", x.count(13), 4);
        Due.is("end(4)", x.end(4), true);
        Due.is("end(3)", x.end(3), true);
        Due.is("count(13)", x.count(13), 3);
        Due.is("end(4)", x.end(4), false);
    }

    private static void promise4() {
        String[] texts = {"", "2", "7", "x", "3", "32", "37", "33", "33........", "33..........", "33...7...", "33...0...",
            "33111111.1.", "331111111..", "66" + ".".repeat(37), "66" + ".".repeat(35), "3333", "34............;"};
        int[] due = {-1, -1, -1, -1, -2, -2, -2, -3, -11, -12, -6, -6,
            -10, -9, -39, -38, -5, -15};
        for (int i = 0; i < texts.length; i++) {
            FullStopWells x = Due.made(PLAIN, "004.;015,");
            x.seasons(3);
            x.keep(0);
            int water = x.count(6);
            Due.is("plain of " + texts[i], Due.plain(x, texts[i]), due[i]);
            Due.is("count(13)", x.count(13), 0);
            Due.is("count(3)", x.count(3), 2);
            Due.is("count(6)", x.count(6), water);
            Due.is("count(11)", x.count(11), 1);
            Due.is("count(7)", x.count(7), 6);
            Due.is("again(0)", x.again(0), true);
        }
        FullStopWells x = Due.made(PLAIN, "009.;019,");
        x.seasons(60);
        x.keep(0);
        x.keep(1);
        x.heard(0, 1);
        Due.rule(x, "1");
        Due.is("count(5) is more than 0", x.count(5) > 0, true);
        Due.is("plain", Due.plain(x, "36" + "6....." + "......" + ".1234."), 18);
        long[] counts = {3, 6, 5, 0, 0, 0, 0, 16, 0, 0, 1, 0, 2, 0};
        for (int what = 0; what < counts.length; what++) {
            Due.is("count(" + what + ") anew", x.count(what), counts[what]);
        }
        Due.is("again(0)", x.again(0), false);
        Due.is("again(1)", x.again(1), false);
        Due.is("undo", x.undo(), -1);
        Due.is("village(4, 0)", x.village(4, 0), 16);
        Due.is("village(4, 1)", x.village(4, 1), 4);
        x.says(0, 1, 1);
        Due.is("the rule stays", x.well(0, 6), 1);
        Due.is("plain of six", Due.plain(x, "63" + "111111" + ".".repeat(12)), 18);
        Due.is("greatest plain", Due.plain(x, "66" + ".".repeat(35) + "6"), 36);
        Due.is("village(0, 0)", x.village(0, 0), 35);
    }

    private static void promise5() {
        String full = "001.;011.;021.;101.;111.;121.;201.;211.";
        String[] texts = {"0", "3", "x", "00", "03", "0x", "001", "000", "00x", "001;", "001.x", "001.;", "001.,",
            "001.;00", "001.;001.", "221.", "001.;225,", "001.;x", full + ";", full + "x", full + ";221.", full.replace("21.", "2x")};
        int[] due = {-2, -1, -1, -3, -2, -2, -4, -3, -3, -4, -5, -6, -5,
            -7, -7, 1, 2, -6, -40, -40, -40, -13};
        for (int i = 0; i < texts.length; i++) {
            FullStopWells x = new FullStopWells();
            x.says(4, 9, 0);
            x.keep(0);
            // the full texts tell of FIELD 4 themselves
            if (texts[i].length() > 13) {
                Due.plain(x, "33.........");
            }
            int ahead = x.count(3);
            Due.is("wells of " + texts[i], Due.wells(x, texts[i]), due[i]);
            Due.is("count(13)", x.count(13), 0);
            Due.is("count(3)", x.count(3), ahead + Math.max(0, due[i]));
            Due.is("count(11)", x.count(11), due[i] > 0 ? 0 : ahead);
            Due.is("again(0)", x.again(0), due[i] < 0 && ahead == 1);
        }
        FullStopWells x = new FullStopWells();
        Due.is("wells of eight", Due.wells(x, full), 8);
        Due.is("well(7, 0)", x.well(7, 0), 7);
        Due.is("wells of a ninth", Due.wells(x, "221."), -1);
        Due.is("wells of nothing", Due.wells(x, ""), 0);
        FullStopWells y = Due.made("33.........", "005.;119,");
        y.ands(0);
        y.keep(1);
        Due.is("wells of nothing", Due.wells(y, ""), 0);
        Due.is("count(11)", y.count(11), 1);
        Due.is("again(1)", y.again(1), true);
        y.ands(0);
        y.seasons(1);
        Due.is("wells behind others: on one", Due.wells(y, "00"), -2);
        Due.is("wells behind others", Due.wells(y, "221,;201.;211.;021.;121.;101."), 6);
        Due.is("those ahead stay", y.well(0, 3), 2);
        Due.is("those ahead stay", y.well(0, 4), 1);
        Due.is("new ones are dry", y.well(2, 4), 0);
        Due.is("new ones are dry", y.well(2, 3), 0);
        Due.is("new one's field", y.well(2, 0), 8);
        Due.is("season stays", y.count(4), 1);
        FullStopWells z = Due.made("33.........", "001.;011.;021.;101.;111.;121.");
        Due.is("no room for the third", Due.wells(z, "201.;211.;221."), -11);
        Due.is("no room for the third, whatever it is", Due.wells(z, "201.;211.;x"), -11);
        Due.is("no room for the third: its end", Due.wells(z, "201.;211.;"), -11);
        Due.is("nothing of it came", z.count(3), 6);
        Due.is("5 columns", Due.plain(z, "35..............."), 15);
        Due.is("a column", Due.wells(z, "241."), 1);
        Due.is("its field", z.well(0, 0), 14);
        Due.is("a row that is not there", Due.wells(z, "301."), -1);
        Due.is("a column that is not there", Due.wells(z, "251."), -2);
    }

    private static long flow(String rule, int words, int meant, int ands, int water, int season) {
        FullStopWells x = Due.made("35" + "1...2" + "....." + "3.4.5", "");
        x.seasons(season);
        x.says(7, words, meant);
        for (int i = 0; i < ands; i++) {
            x.ands(0);
        }
        x.sheet(2, 1, water, 0);
        Due.is("rule of " + rule, Due.rule(x, rule), 0);
        Due.is("count(13)", x.count(13), 0);
        return x.well(0, 6);
    }

    private static void flows() {
        Object[][] due = {{"", 6}, {"w", 2}, {"d", 8}, {"a", 1}, {"m", 1}, {"v", 1}, {"l/10", 7}, {"n", 3}, {"7", 7}, {"999", 9},
            {"-1", 0}, {"--1", 1}, {"---1+3", 2}, {"w<d", 1}, {"w>d", 0}, {"w=2", 1}, {"2+3*2", 8}, {"(1+2)*2", 6}, {"9-3-2", 4},
            {"9-3+2", 8}, {"9/2*2", 8}, {"9/0", 0}, {"5+9/0", 5}, {"-7/2+9", 6}, {"7/-2+9", 6}, {"2*-3+9", 3}, {"-2*-3", 6},
            {"1+1<1+2", 1}, {"(1<2)+(2>1)+(2=2)", 3}, {"(1<2)<2", 1}, {"((((5))))", 5}, {"-(2-5)", 3}, {"9-(1-2)*-2", 7},
            {"007", 7}, {"999*999*999*999/999/999/100", WRAPPED}, {"w-d", 0}, {"8-l", 0}, {"10", 9},
            {"5-2*2+1", 2}, {"8/2/2", 2}, {"8/(2/2)", 8}, {"7-7/2", 4}, {"3=3*1", 1}, {"0-1<0", 1}};
        for (Object[] one : due) {
            Due.is("flow by " + one[0], flow((String) one[0], 2, 1, 1, 77, 3), (Integer) one[1]);
        }
        Due.is("n is SEASON by 4", flow("n", 2, 1, 0, 0, 7), 3);
        Due.is("d if not meant", flow("d", 2, 0, 0, 0, 0), 1);
        Due.is("m if not meant", flow("m", 2, 0, 0, 0, 0), 0);
        Due.is("put to 0", flow("d-a*2", 9, 1, 9, 0, 0), 0);
    }

    private static void promise6() {
        String forty = "1+1+1+1+1+1+1+1+1+1+1+1+1+1+1+1+1+1+1+12";
        String[] texts = {"x", "w+", "w<d<a", "(w", "(((((w", "1000", "w w", ")", "w)", "()", "+w", "w+*d", "w5", "(w)5", "5(w)",
            "-", "w=d>1", "(w<d)<a", "(w<d<a)", "((w<d)=(a<m))>1", "((w<d)=(a<m))>1=2", forty, forty + "0", forty + "+",
            "1+1+1+1+1+1+1+1+1+1+1+1+1+1+1+1+1+1+1+1+", "1+1+1+1+1+1+1+1+1+1+1+1+1+1+1+1+1+1+1+1+1", "(w)(d)", "w<", "w~d", "\u00ff",
            "1<2+3>4", "-x", "(1))", "((((1)+(2))))", "((((1)+(((2))))))", "W", "12 3"};
        int[] due = {-1, -3, -4, -3, -5, -4, -2, -1, -2, -2, -1, -3, -2, -4, -2,
            -2, -4, 0, -5, 0, -16, 0, -41, -41,
            -41, -41, -4, -3, -2, -1,
            -6, -2, -4, 0, -9, -1, -3};
        for (int i = 0; i < texts.length; i++) {
            FullStopWells x = Due.made("33.........", "002.");
            Due.rule(x, "5");
            x.ands(0);
            x.keep(0);
            Due.is("rule of " + texts[i], Due.rule(x, texts[i]), due[i]);
            Due.is("count(13)", x.count(13), 0);
            Due.is("count(11)", x.count(11), 1);
            Due.is("again(0)", x.again(0), true);
            if (due[i] < 0) {
                Due.is("the rule stays", x.well(0, 6), 5);
            }
        }
        FullStopWells x = Due.made("33.........", "002.");
        Due.rule(x, "5");
        Due.is("rule of nothing", Due.rule(x, ""), 0);
        Due.is("it is none", x.well(0, 6), 8);
    }

    private static void promise7() {
        FullStopWells x = Due.made(PLAIN, "014.;215,");
        x.ands(0);
        x.sheet(2, 2, 3, 9);
        long[] first = {1, 4, 1, 1, 3, 6, 4, 1 | 2};
        long[] second = {7, 5, 0, 0, 12, 1, 1, 4};
        for (int what = 0; what < 8; what++) {
            Due.is("well(0, " + what + ")", x.well(0, what), first[what]);
            Due.is("well(1, " + what + ")", x.well(1, what), second[what]);
        }
        x.sheet(2, 2, 0, 9);
        Due.is("a dry one has no drawers", x.well(0, 7), 0);
        Due.is("all draw from the other", x.well(1, 7), 7);
        int[][] wrong = {{2, 0}, {-1, 0}, {0, 8}, {0, -1}, {8, 0}, {Integer.MIN_VALUE, 3}, {0, Integer.MAX_VALUE}};
        for (int[] one : wrong) {
            Due.throwsNoSuchElement("well(" + one[0] + ", " + one[1] + ")", () -> x.well(one[0], one[1]));
        }
    }

    private static void promise8() {
        FullStopWells x = Due.made(PLAIN, "014.;215,");
        Due.is("village(0, 2) dry", x.village(0, 2), -1);
        Due.is("village(0, 3) dry", x.village(0, 3), -1);
        x.sheet(2, 2, 1, 0);
        long[][] due = {{0, 2, 0, 1}, {4, 1, 0, 1}, {8, 3, 1, 1}};
        for (int i = 0; i < 3; i++) {
            for (int what = 0; what < 4; what++) {
                Due.is("village(" + i + ", " + what + ")", x.village(i, what), due[i][what]);
            }
        }
        x.draws(0, 1);
        Due.is("village(0, 2)", x.village(0, 2), 1);
        Due.is("village(0, 3)", x.village(0, 3), 3);
        int[][] wrong = {{3, 0}, {-1, 0}, {0, 4}, {0, -1}, {6, 0}, {Integer.MAX_VALUE, 1}};
        for (int[] one : wrong) {
            Due.throwsNoSuchElement("village(" + one[0] + ", " + one[1] + ")", () -> x.village(one[0], one[1]));
        }
    }

    private static void promise9() {
        FullStopWells x = Due.made(PLAIN, "014.;215,;225,");
        Due.is("ints", x.sheet(2, 3, 5, 10), 45);
        Due.is("third", x.well(2, 4), 25);
        Due.is("ints put to 99 and 0", x.sheet(2, 3, 150, -100), 149);
        Due.is("third", x.well(2, 4), 0);
        Due.is("bytes", x.sheet(0, 3, 127, 1), 99);
        Due.is("bytes of 256 + 7", x.sheet(0, 2, 263, 0), 14);
        Due.is("third has 0", x.well(2, 4), 0);
        Due.is("shorts", x.sheet(1, 3, 32767, 1), 99);
        Due.is("shorts of 65536 + 8", x.sheet(1, 8, 65544, 1), 27);
        Due.is("n 0", x.sheet(1, 0, 5, 5), 0);
        Due.is("ints", x.sheet(2, 3, 4, 0), 12);
        Due.is("n below 0", x.sheet(2, -1, 5, 5), -2);
        Due.is("nothing changes", x.count(6), 12);
        Due.is("another kind", x.sheet(4, -1, 5, 5), -1);
        Due.is("another kind", x.sheet(-1, 1, 5, 5), -1);
        Due.is("n above 8", x.sheet(0, 9, 5, 5), -1);
        Due.is("n above 8 of a missing one", x.sheet(3, 9, 5, 5), -1);
        Due.is("nothing changes", x.count(6), 12);
        x.ands(0);
        Due.is("missing", x.sheet(3, -5, 5, 5), -3);
        Due.is("all 0", x.count(6), 0);
        Due.is("not undone itself", x.count(11), 1);
        x.undo();
        Due.is("as ahead of the and", x.count(6), 12);
        Due.is("around", x.sheet(2, 2, Integer.MAX_VALUE, 1), 99);
        Due.is("no wells", new FullStopWells().sheet(2, 8, 1, 1), 0);
    }

    public static void main(String[] args) {
        promise1();
        promise2();
        promise3();
        promise4();
        promise5();
        promise6();
        flows();
        promise7();
        promise8();
        promise9();
        Due.end("promises 1 to 9");
    }
}
