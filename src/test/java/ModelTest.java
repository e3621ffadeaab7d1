import java.util.NoSuchElementException;
import java.util.Random;
import java.util.function.LongSupplier;

/** Long runs of drawn calls: each answer, the ROW and all counts are the model's. */
final class ModelTest {
    private static final int RUNS = 400;
    private static final int CALLS = 400;
    private static final int THROWN = 123456789;

    private final Random random;
    private final FullStopWells x = new FullStopWells();
    private final Model m = new Model();
    private final StringBuilder calls = new StringBuilder();

    private ModelTest(int seed) {
        random = new Random(seed);
    }

    private int upTo(int n) {
        return random.nextInt(n + 1);
    }

    /** Mostly least .. most, now and then beside it. */
    private int about(int least, int most) {
        switch (upTo(40)) {
            case 0: return least - 1;
            case 1: return most + 1;
            case 2: return random.nextInt();
            default: return least + upTo(most - least);
        }
    }

    private int aWell() {
        return about(0, Math.max(0, m.world.wells.size() - 1));
    }

    private int aVillage() {
        return about(0, Math.max(0, m.villages.size() - 1));
    }

    private int aField() {
        return about(0, m.rows * m.columns - 1);
    }

    private char one(String signs) {
        return signs.charAt(random.nextInt(signs.length()));
    }

    private String aPlain() {
        StringBuilder s = new StringBuilder().append(one("3456")).append(one("3456"));
        int fields = (s.charAt(0) - '0') * (s.charAt(1) - '0');
        int rare = 3 + upTo(9);
        int villages = 0;
        for (int f = 0; f < fields; f++) {
            boolean village = upTo(rare) == 0 && villages < 6 + upTo(1);
            villages += village ? 1 : 0;
            s.append(village ? one("123456") : '.');
        }
        return s.toString();
    }

    private String someWells() {
        StringBuilder s = new StringBuilder();
        int lines = 1 + upTo(upTo(4) == 0 ? 8 : 3);
        for (int i = 0; i < lines; i++) {
            s.append(i > 0 ? ";" : "").append(upTo(m.rows - 1)).append(upTo(m.columns - 1)).append(one("1123456789")).append(one("..,"));
        }
        return s.toString();
    }

    private String aRule(int levels) {
        StringBuilder s = new StringBuilder();
        int things = 1 + upTo(3);
        boolean compared = upTo(2) > 0;
        for (int i = 0; i < things; i++) {
            if (i > 0) {
                s.append(compared ? one("+-*/") : one("+-*/<>="));
                compared |= "<>=".indexOf(s.charAt(s.length() - 1)) >= 0;
            }
            s.append("-".repeat(upTo(4) == 0 ? 1 + upTo(2) : 0));
            int kind = upTo(6);
            s.append(kind == 0 && levels > 0 ? "(" + aRule(levels - 1) + ")" : kind < 3 ? "" + upTo(upTo(3) == 0 ? 999 : 9) : "" + one("wddammvlln"));
        }
        return s.toString();
    }

    private String aYear() {
        StringBuilder s = new StringBuilder();
        int acts = upTo(upTo(5) == 0 ? 22 : 6);
        for (int i = 0; i < acts; i++) {
            char act = one("nnnssaacdrr");
            s.append(act);
            if (act == 'n') {
                s.append(upTo(3));
            } else if (act == 's') {
                s.append(upTo(m.rows - (upTo(6) == 0 ? 0 : 1))).append(upTo(m.columns - (upTo(6) == 0 ? 0 : 1))).append(one("123456789")).append(one("..,"));
            } else {
                s.append(upTo(Math.max(0, m.world.wells.size() - (upTo(6) == 0 ? 0 : 1))));
                s.append(act == 'd' ? "" + one("112345678") : "");
            }
        }
        return s.toString();
    }

    private String spoilt(String s) {
        if (upTo(3) > 0) {
            return s;
        }
        StringBuilder t = new StringBuilder(s);
        int p = upTo(t.length());
        char sign = upTo(9) == 0 ? (char) upTo(255) : one("0123456789.,;()<>=+-*/wdamvlnscrx");
        switch (upTo(3)) {
            case 0:
                t.insert(p, sign);
                break;
            case 1:
                t.setLength(p);
                break;
            case 2:
                t.append(s);
                break;
            default:
                if (p < t.length()) {
                    t.setCharAt(p, sign);
                }
                break;
        }
        return t.toString();
    }

    private void tell(String s) {
        String t = s.substring(0, Math.min(80, s.length()));
        ask("end(0)", () -> x.end(0) ? 1 : 0, () -> m.end(0));
        for (int i = 0; i < t.length(); i += 4) {
            int v = 0;
            for (int j = i; j < i + 4; j++) {
                v = v << 8 | (j < t.length() ? t.charAt(j) : random.nextInt(256));
            }
            int four = v;
            ask("sign(" + four + ")", () -> x.sign(four), () -> m.sign(four));
        }
        ask("end(" + t.length() + ")", () -> x.end(t.length()) ? 1 : 0, () -> m.end(t.length()));
        calls.append(" [").append(t).append("]");
    }

    private void ask(String call, LongSupplier got, LongSupplier due) {
        calls.append(' ').append(call);
        long g;
        try {
            g = got.getAsLong();
        } catch (NoSuchElementException e) {
            g = THROWN;
        }
        Due.is(call, g, due.getAsLong());
    }

    private static long orThrown(Number n) {
        return n == null ? THROWN : n.longValue();
    }

    private boolean sameState() {
        for (int what = -1; what <= 14; what++) {
            if (x.count(what) != m.count(what)) {
                return false;
            }
        }
        for (int i = 0; i < m.row.size(); i++) {
            if (x.row(i) != m.row(i)) {
                return false;
            }
        }
        for (int i = 0; i < m.world.wells.size(); i++) {
            for (int what = 0; what <= 7; what++) {
                if (x.well(i, what) != m.well(i, what)) {
                    return false;
                }
            }
        }
        for (int i = 0; i < m.villages.size(); i++) {
            for (int what = 0; what <= 3; what++) {
                if (x.village(i, what) != m.village(i, what)) {
                    return false;
                }
            }
        }
        return true;
    }

    private void texts(int which) {
        switch (which) {
            case 0:
                tell(spoilt(aPlain()));
                ask("plain()", x::plain, m::plain);
                break;
            case 1:
            case 2:
                tell(spoilt(someWells()));
                ask("wells()", x::wells, m::wells);
                break;
            case 3:
                tell(spoilt(upTo(5) == 0 ? "" : aRule(5)));
                ask("rule()", x::rule, m::rule);
                break;
            case 4:
                tell(spoilt(upTo(5) == 0 ? "" : aRule(5)));
                ask("law()", x::law, m::law);
                break;
            case 5:
                tell(spoilt(("" + Math.abs(random.nextLong())).substring(0, 1 + upTo(15)).repeat(1 + upTo(1) * upTo(1))));
                ask("waits()", x::waits, m::waits);
                break;
            default:
                tell(spoilt(aYear()));
                ask("year()", x::year, m::year);
                break;
        }
    }

    private void acts(int which) {
        int a = aWell();
        int f = aField();
        int w = about(1, 9);
        int is = about(0, 1);
        int n = upTo(3) == 0 ? about(0, 60) : upTo(3);
        int i = about(0, 1);
        int k = about(0, 3);
        int entries = about(0, 8);
        int e = upTo(5) == 0 ? random.nextInt() : upTo(60);
        int s = upTo(5) == 0 ? random.nextInt() : upTo(40) - 20;
        int t = about(1, 60);
        switch (which) {
            case 0: ask("seasons(" + n + ")", () -> x.seasons(n), () -> m.seasons(n)); break;
            case 1:
            case 2: ask("says(" + f + ", " + w + ", " + is + ")", () -> x.says(f, w, is), () -> m.says(f, w, is)); break;
            case 3: ask("ands(" + a + ")", () -> x.ands(a), () -> m.ands(a)); break;
            case 4: ask("clears(" + a + ")", () -> x.clears(a), () -> m.clears(a)); break;
            case 5: ask("draws(" + a + ", " + w + ")", () -> x.draws(a, w), () -> m.draws(a, w)); break;
            case 6: ask("repents(" + a + ")", () -> x.repents(a), () -> m.repents(a)); break;
            case 7: ask("undo()", x::undo, m::undo); break;
            case 8: ask("keep(" + i + ")", () -> x.keep(i) ? 1 : 0, () -> m.keep(i)); break;
            case 9: ask("again(" + i + ")", () -> x.again(i) ? 1 : 0, () -> m.again(i)); break;
            case 10: ask("sheet(" + k + ", " + entries + ", " + e + ", " + s + ")", () -> x.sheet(k, entries, e, s), () -> m.sheet(k, entries, e, s)); break;
            case 11: ask("years(" + e + ", " + t + ")", () -> x.years(e, t), () -> m.years(e, t)); break;
            case 12: ask("forget()", x::forget, m::forget); break;
            default: {
                int what = about(0, 4);
                int v = about(0, what == 0 ? 9 : what == 1 ? 1 : what == 2 ? 99 : 5);
                ask("heard(" + what + ", " + v + ")", () -> x.heard(what, v), () -> m.heard(what, v));
                break;
            }
        }
    }

    private void questions(int which) {
        int a = aWell();
        int b = aWell();
        int g = aVillage();
        int f = aField();
        int w = about(1, 9);
        int n = about(0, 99);
        int few = about(1, 30);
        int v = about(0, 10);
        int q = about(0, 10);
        int r = about(0, 10);
        switch (which) {
            case 0: ask("later(" + a + ", " + n + ")", () -> x.later(a, n), () -> m.later(a, n)); break;
            case 1: ask("parched(" + g + ")", () -> x.parched(g), () -> m.parched(g)); break;
            case 2: ask("drinks(" + g + ", " + n + ")", () -> x.drinks(g, n), () -> m.drinks(g, n)); break;
            case 3: ask("rises(" + a + ", " + n + ")", () -> x.rises(a, n), () -> m.rises(a, n)); break;
            case 4: ask("richest(" + n + ")", () -> x.richest(n), () -> m.richest(n)); break;
            case 5: ask("balance()", x::balance, m::balance); break;
            case 6: ask("covers(" + v + ")", () -> x.covers(v), () -> m.covers(v)); break;
            case 7: ask("best(" + w + ", " + few + ")", () -> x.best(w, few), () -> m.best(w, few)); break;
            case 8: ask("longest(" + f + ", " + g + ", " + few + ")", () -> x.longest(f, g, few), () -> m.longest(f, g, few)); break;
            case 9: ask("dearest(" + few + ")", () -> x.dearest(few), () -> m.dearest(few)); break;
            case 10: ask("bears(" + a + ", " + few + ")", () -> x.bears(a, few), () -> m.bears(a, few)); break;
            case 11: ask("twins()", x::twins, m::twins); break;
            case 12: ask("route(" + a + ", " + b + ", " + v + ")", () -> x.route(a, b, v), () -> m.route(a, b, v)); break;
            case 13: ask("reach()", x::reach, m::reach); break;
            case 14: ask("square()", x::square, m::square); break;
            case 15: ask("dry(" + v + ")", () -> x.dry(v), () -> m.dry(v)); break;
            case 16: ask("fits()", x::fits, m::fits); break;
            case 17: ask("asks()", x::asks, m::asks); break;
            case 18: {
                int times = about(0, 7);
                int k = about(0, Math.max(0, Math.min(7, times)));
                ask("meant(" + v + ", " + q + ", " + r + ", " + times + ", " + k + ")", () -> x.meant(v, q, r, times, k), () -> m.meant(v, q, r, times, k));
                break;
            }
            case 19: ask("shares(" + n + ")", () -> x.shares(n), () -> m.shares(n)); break;
            case 20: ask("squares(" + n + ")", () -> x.squares(n), () -> m.squares(n)); break;
            case 21: ask("rests(" + (few - 5) + ")", () -> x.rests(few - 5), () -> m.rests(few - 5)); break;
            case 22: ask("well(" + a + ", " + v + ")", () -> x.well(a, v), () -> orThrown(m.well(a, v))); break;
            case 23: ask("village(" + g + ", " + v + ")", () -> x.village(g, v), () -> orThrown(m.village(g, v))); break;
            default: ask("row(" + v + ")", () -> x.row(v), () -> orThrown(m.row(v))); break;
        }
    }

    private boolean run() {
        for (int i = 0; i < CALLS; i++) {
            if (i == 0 && upTo(9) > 0) {
                texts(0);
            }
            int kind = upTo(9);
            if (kind < 2) {
                int which = upTo(8);
                texts(which == 0 && upTo(3) > 0 ? 6 : which);
            } else if (kind < 6) {
                acts(upTo(15));
            } else {
                questions(upTo(24));
            }
            if (!sameState()) {
                Due.is("the state behind" + calls, 0, 1);
                return false;
            }
        }
        return true;
    }

    public static void main(String[] args) {
        boolean same = true;
        for (int seed = 0; seed < RUNS && same; seed++) {
            same = new ModelTest(seed).run();
        }
        Due.end("runs beside the model");
    }
}
