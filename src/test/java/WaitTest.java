/** Promises 39 to 41: waiting, sharing, squares by turns. */
final class WaitTest {
    private WaitTest() {
    }

    private static void promise39() {
        FullStopWells x = new FullStopWells();
        Due.row(x, "waits of 35921", Due.waits(x, "35921"), 9, 2, 2);
        Due.is("count(13)", x.count(13), 0);
        Due.row(x, "waits of 5", Due.waits(x, "5"), 5, 0, 0);
        Due.row(x, "waits of 95", Due.waits(x, "95"), 9, 0, 0);
        Due.row(x, "waits of 59", Due.waits(x, "59"), 9, 1, 1);
        Due.row(x, "more than each, not as much", Due.waits(x, "5578"), 8, 3, 3);
        Due.row(x, "as the last one", Due.waits(x, "3218"), 8, 1, 3);
        Due.row(x, "waits of 0000", Due.waits(x, "0000"), 0, 0, 0);
        Due.row(x, "waits of 16", Due.waits(x, "1234567876543219"), 9, 8, 15);
        String[] wrong = {"", "x", "5x", "59;", "11111111111111111", "1111111111111111x", "111111111111111x1", "5 "};
        int[] due = {-1, -1, -2, -3, -17, -17, -16, -2};
        for (int i = 0; i < wrong.length; i++) {
            Due.row(x, "waits of " + wrong[i], Due.waits(x, wrong[i]), due[i], 8, 15);
            Due.is("count(13)", x.count(13), 0);
        }
    }

    private static void promise40() {
        FullStopWells x = Due.made("33" + "2.." + ".1." + "..3", "");
        int[][] due = {{0, 0, 0, 0}, {1, 1, 0, 0}, {2, 1, 1, 0}, {3, 1, 1, 1}, {4, 2, 1, 1}, {5, 2, 1, 2}, {6, 2, 1, 3}};
        for (int[] one : due) {
            Due.row(x, "shares(" + one[0] + ")", x.shares(one[0]), one[0], one[1], one[2], one[3]);
        }
        Due.row(x, "shares(99)", x.shares(99), 6, 2, 1, 3);
        Due.row(x, "shares(100)", x.shares(100), -1, 2, 1, 3);
        Due.row(x, "shares(-1)", x.shares(-1), -1, 2, 1, 3);
        FullStopWells y = Due.made("33" + "161" + "616" + "...", "");
        Due.row(y, "shares(11)", y.shares(11), 11, 1, 3, 1, 3, 1, 2);
        Due.row(y, "shares(20)", y.shares(20), 20, 1, 6, 1, 6, 1, 5);
        FullStopWells none = new FullStopWells();
        none.square();
        Due.row(none, "shares(9) of none", none.shares(9), 0);
    }

    private static void promise41() {
        FullStopWells x = new FullStopWells();
        // who has so many loses; the first numbers of a known row
        int[] losing = {0, 2, 5, 7, 10, 12, 15, 17, 20, 22, 34, 39, 44, 52, 57};
        int next = 0;
        for (int n = 0; n <= 60; n++) {
            boolean loses = next < losing.length && losing[next] == n;
            next += loses ? 1 : 0;
            Due.is("squares(" + n + ")", x.squares(n), loses ? 0 : 1);
            Due.is("count(12)", x.count(12), loses ? 0 : 1);
        }
        Due.row(x, "squares(1)", x.squares(1), 1, 1);
        Due.row(x, "squares(4)", x.squares(4), 1, 4);
        Due.row(x, "squares(9)", x.squares(9), 1, 4);
        Due.row(x, "squares(60)", x.squares(60), 1, 16);
        Due.row(x, "squares(61)", x.squares(61), -1, 16);
        Due.row(x, "squares(-1)", x.squares(-1), -1, 16);
    }

    public static void main(String[] args) {
        promise39();
        promise40();
        promise41();
        Due.end("promises 39 to 41");
    }
}
