import java.util.NoSuchElementException;

/** Wells on a plain of talk, as ../shared/DOC.md promises. Words in capitals here are that document's. */
public final class FullStopWells {
    public static final int NONE = -1;

    private static final int MOST_SIGNS = 80;
    private static final int MOST_FIELDS = 36;
    private static final int MOST_VILLAGES = 6;
    private static final int MOST_WELLS = 8;
    private static final int MOST_WATER = 99;
    private static final int MOST_ANDS = 9;
    private static final int MOST_PARCHED = 9999;
    private static final int MOST_FAR = 10;
    private static final int MOST_UNDO = 12;
    private static final int MOST_KEPT = 2;
    private static final int MOST_HEARD = 12;
    private static final int MOST_OFFERS = 16;
    private static final int MOST_TALK = 9;
    private static final int WELLS_SIGNS = 39;
    private static final int RULE_SIGNS = 40;
    private static final int YEAR_SIGNS = 60;
    private static final int AHEAD = 99;
    private static final int TRIED = 30;
    private static final int AT_ONCE = 60;
    private static final int VILLAGE_SETS = 64;
    private static final char[] NO_RULE = {'d', '-', 'a', '*', '2'};

    private final Text told = new Text();
    private final Numbers numbers = new Numbers();
    private final Ground ground = new Ground();
    private final State now = new State();
    private final State before = new State();
    private final State trial = new State();
    private final Course course = new Course();
    private final Past past = new Past();
    private final Hearsay hearsay = new Hearsay();
    private final Ways ways = new Ways();
    private final Lot lot = new Lot();
    private Rule ruling = new Rule();
    private Rule spare = new Rule();

    public FullStopWells() {
        ruling.read(NO_RULE, NO_RULE.length);
    }

    // ---- the plain, wells

    public int sign(int v) {
        return told.addFour(v) ? told.length : NONE;
    }

    public boolean end(int n) {
        return told.cutTo(n);
    }

    public int plain() {
        int fault = ground.faultIn(told);
        if (fault < 0) {
            ground.read(told);
            now.empty();
            past.forgetAll();
        }
        told.cutTo(0);
        return fault < 0 ? ground.fields() : -1 - fault;
    }

    public int wells() {
        if (told.length == 0) {
            return 0;
        }
        before.take(now);
        int fault = readLines(before);
        told.cutTo(0);
        if (fault >= 0) {
            return -1 - fault;
        }
        int lines = before.size - now.size;
        now.take(before);
        past.forgetAll();
        return lines;
    }

    public int rule() {
        int fault = readSpareRule();
        if (fault >= 0) {
            return -1 - fault;
        }
        Rule last = ruling;
        ruling = spare;
        spare = last;
        return 0;
    }

    public int well(int well, int what) throws NoSuchElementException {
        if (!now.has(well) || what < 0 || what > 7) {
            throw new NoSuchElementException();
        }
        switch (what) {
            case 0: return now.field[well];
            case 1: return now.words[well];
            case 2: return now.meaning[well];
            case 3: return now.andsIn[well];
            case 4: return now.water[well];
            case 5: return now.depth(well);
            case 6: return ruling.flow(now, well, ground);
            default: return drawersFrom(well);
        }
    }

    public int village(int village, int what) throws NoSuchElementException {
        if (!ground.has(village) || what < 0 || what > 3) {
            throw new NoSuchElementException();
        }
        int home = ground.home[village];
        if (what == 0) {
            return home;
        }
        if (what == 1) {
            return ground.thirst[village];
        }
        int nearest = now.nearestWater(ground, home);
        if (what == 2 || nearest < 0) {
            return nearest;
        }
        return ground.far(home, now.field[nearest]);
    }

    public int sheet(int kind, int n, int f, int step) {
        if (kind < 0 || kind > 3 || n > MOST_WELLS) {
            return NONE;
        }
        if (kind < 3 && n < 0) {
            return -2;
        }
        int entries = kind == 3 ? 0 : n;
        int entry = f;
        for (int i = 0; i < now.size; i++) {
            now.water[i] = i < entries ? put(asKind(kind, entry), MOST_WATER) : 0;
            entry += step;
        }
        return kind == 3 ? -3 : now.waterOfAll();
    }

    // ---- seasons, sayings

    public int seasons(int n) {
        if (n < 0 || n > AT_ONCE) {
            return NONE;
        }
        before.take(now);
        int more = course.pass(now, ground, ruling, n);
        if (n > 0) {
            past.push(before);
        }
        return tellTwo(now.waterOfAll(), more, now.howManyDry());
    }

    public int says(int field, int w, int meant) {
        if (!ground.hasField(field) || w < 1 || w > 9 || meant < 0 || meant > 1) {
            return NONE;
        }
        before.take(now);
        return pushIfDone(now.sayOn(field, w, meant));
    }

    public int ands(int well) {
        before.take(now);
        return pushIfDone(now.throwAnd(well));
    }

    public int clears(int well) {
        before.take(now);
        return pushIfDone(now.takeAnds(well));
    }

    public int draws(int well, int n) {
        before.take(now);
        return pushIfDone(now.drawFrom(well, n));
    }

    public int repents(int well) {
        before.take(now);
        return pushIfDone(now.turn(well));
    }

    public int year() {
        int fault = faultInYear();
        if (fault >= 0) {
            told.cutTo(0);
            return -1 - fault;
        }
        before.take(now);
        int done = 0;
        int p = 0;
        boolean stopped = false;
        for (int i = 0; i < YEAR_SIGNS && p < told.length && !stopped; i++) {
            if (act(p) < 0) {
                stopped = true;
            } else {
                done++;
                p += 1 + shape(told.at(p, YEAR_SIGNS)).length();
            }
        }
        told.cutTo(0);
        if (done > 0) {
            past.push(before);
        }
        return tellTwo(done, stopped ? 1 : 0, now.waterOfAll());
    }

    public int undo() {
        return past.pop(now);
    }

    // ---- later

    public int later(int well, int n) {
        if (!now.has(well) || n < 0 || n > AHEAD) {
            return NONE;
        }
        int more = tryAsItIs(n);
        return tellTwo(trial.water[well], trial.waterOfAll(), more);
    }

    public int parched(int village) {
        if (!ground.has(village)) {
            return NONE;
        }
        trial.take(now);
        int first = -2;
        int times = 0;
        for (int n = 1; n <= AHEAD; n++) {
            course.passOne(trial, ground, ruling);
            if (course.drew[village] < ground.thirst[village]) {
                times++;
                first = times == 1 ? n : first;
            }
        }
        return times == 0 ? -2 : tellOne(first, times);
    }

    public int drinks(int village, int n) {
        if (!ground.has(village) || n < 1 || n > AHEAD) {
            return NONE;
        }
        tryAsItIs(n);
        return tellOne(course.drew[village], course.drewFrom[village]);
    }

    public int rises(int well, int v) {
        if (!now.has(well) || v < 0 || v > MOST_WATER) {
            return NONE;
        }
        trial.take(now);
        for (int n = 0; n <= AHEAD; n++) {
            if (trial.water[well] >= v) {
                return tellOne(n, trial.water[well]);
            }
            course.passOne(trial, ground, ruling);
        }
        return -2;
    }

    public int richest(int n) {
        if (n < 0 || n > AHEAD) {
            return NONE;
        }
        if (now.size == 0) {
            return -2;
        }
        tryAsItIs(n);
        int it = 0;
        for (int i = 1; i < trial.size; i++) {
            if (trial.water[i] > trial.water[it]) {
                it = i;
            }
        }
        return tellTwo(it, trial.water[it], trial.howManyDry());
    }

    public int balance() {
        int flows = 0;
        for (int i = 0; i < now.size; i++) {
            flows += ruling.flow(now, i, ground);
        }
        int thirsts = ground.thirstOfAll();
        return tellTwo(flows - thirsts + 1000, flows, thirsts);
    }

    // ---- what to say where

    public int covers(int v) {
        if (!isFar(v)) {
            return NONE;
        }
        int left = (1 << ground.villages) - 1;
        ways.needFields(ground, v);
        int fewest = ways.needed(0, left);
        numbers.clear();
        for (int f = 0; f < ground.fields(); f++) {
            int without = left & ~ways.covered(f);
            if (ways.needed(f + 1, without) < ways.needed(f, left)) {
                numbers.add(f);
                left = without;
            }
        }
        return fewest;
    }

    public int best(int w, int n) {
        if (w < 1 || w > 9 || !isTried(n)) {
            return NONE;
        }
        if (now.size >= MOST_WELLS) {
            return -2;
        }
        int it = -1;
        int fewest = 0;
        for (int f = 0; f < ground.fields(); f++) {
            if (now.wellOn(f) >= 0) {
                continue;
            }
            trial.take(now);
            trial.sayOn(f, w, 1);
            int more = course.pass(trial, ground, ruling, n);
            if (it < 0 || more < fewest) {
                it = f;
                fewest = more;
            }
        }
        return it < 0 ? -2 : tellOne(it, fewest);
    }

    public int longest(int field, int village, int n) {
        if (!ground.hasField(field) || !ground.has(village) || !isTried(n)) {
            return NONE;
        }
        if (now.size >= MOST_WELLS || now.wellOn(field) >= 0) {
            return -3;
        }
        for (int w = 9; w >= 1; w--) {
            trial.take(now);
            int made = trial.sayOn(field, w, 1);
            if (drinksItsFill(village, n) && trial.has(made)) {
                return tellOne(w, trial.water[made]);
            }
        }
        return -2;
    }

    public int dearest(int n) {
        if (!isTried(n)) {
            return NONE;
        }
        if (now.size == 0) {
            return -2;
        }
        int it = -1;
        int most = 0;
        for (int i = 0; i < now.size; i++) {
            trial.take(now);
            trial.drop(i);
            int more = course.pass(trial, ground, ruling, n);
            if (it < 0 || more > most) {
                it = i;
                most = more;
            }
        }
        return tellTwo(it, most, tryAsItIs(n));
    }

    public int bears(int well, int n) {
        if (!now.has(well) || !isTried(n)) {
            return NONE;
        }
        int without = tryAsItIs(n);
        for (int k = MOST_ANDS - now.andsIn[well]; k >= 1; k--) {
            trial.take(now);
            trial.andsIn[well] += k;
            int more = course.pass(trial, ground, ruling, n);
            if (more <= without) {
                return tellOne(k, more);
            }
        }
        return tellOne(0, without);
    }

    // ---- routes, squares

    public int twins() {
        if (now.size < 2) {
            return -2;
        }
        int first = 0;
        int second = 1;
        for (int i = 0; i < now.size; i++) {
            for (int j = i + 1; j < now.size; j++) {
                if (now.farApart(ground, i, j) < now.farApart(ground, first, second)) {
                    first = i;
                    second = j;
                }
            }
        }
        return tellTwo(now.farApart(ground, first, second), first, second);
    }

    public int route(int from, int to, int v) {
        if (!now.has(from) || !now.has(to) || !isFar(v)) {
            return NONE;
        }
        ways.countSteps(now, ground, to, v);
        int steps = ways.steps[from];
        if (steps < 0) {
            return -2;
        }
        numbers.clear();
        numbers.add(from);
        int at = from;
        for (int left = steps - 1; left >= 0 && now.has(at); left--) {
            at = ways.nextOne(now, ground, at, v, left);
            numbers.add(at);
        }
        return steps + 1;
    }

    public int reach() {
        if (now.size < 2) {
            return -2;
        }
        int first = 0;
        int second = 1;
        for (int i = 0; i < now.size; i++) {
            for (int j = i + 1; j < now.size; j++) {
                if (now.farApart(ground, i, j) > now.farApart(ground, first, second)) {
                    first = i;
                    second = j;
                }
            }
        }
        int v = 0;
        while (v < MOST_FAR && !ways.allReached(now, ground, v)) {
            v++;
        }
        return tellThree(v, first, second, now.farApart(ground, first, second));
    }

    public int square() {
        int side = 0;
        int first = 0;
        for (int f = 0; f < ground.fields(); f++) {
            int here = sideFrom(f);
            if (here > side) {
                side = here;
                first = f;
            }
        }
        numbers.clear();
        if (side > 0) {
            numbers.add(first);
        }
        return side;
    }

    public long dry(int v) {
        if (!isFar(v)) {
            return NONE;
        }
        long set = 0;
        int fields = 0;
        for (int f = 0; f < ground.fields(); f++) {
            if (!now.hasWellNear(ground, f, v)) {
                set |= 1L << f;
                fields++;
            }
        }
        int villages = 0;
        for (int i = 0; i < ground.villages; i++) {
            villages += (int) ((set >>> ground.home[i]) & 1L);
        }
        tellTwo(0, fields, villages);
        return set;
    }

    // ---- which it was

    public int heard(int what, int v) {
        return hearsay.add(what, v) ? hearsay.size : NONE;
    }

    public int forget() {
        int were = hearsay.size;
        hearsay.size = 0;
        return were;
    }

    public int fits() {
        int set = hearsay.fitting(now, ground);
        return tellOne(set, Integer.bitCount(set));
    }

    public int asks() {
        int set = hearsay.fitting(now, ground);
        if (set == 0) {
            return -2;
        }
        int all = Integer.bitCount(set);
        int it = 0;
        int fewest = all + 1;
        for (int what = 0; what <= 3; what++) {
            for (int v = hearsay.least(what); what != 2 && v <= hearsay.greatest(what); v++) {
                int so = Integer.bitCount(hearsay.narrow(set, what, v, now, ground));
                int most = Math.max(so, all - so);
                if (most < fewest) {
                    fewest = most;
                    it = 10 * what + v;
                }
            }
        }
        return tellOne(it, fewest);
    }

    public int meant(int p, int q, int r, int n, int k) {
        if (!isTenths(p) || !isTenths(q) || !isTenths(r) || n < 0 || n > 7 || k < 0 || k > n) {
            return NONE;
        }
        long so = p * power(q, k) * power(10 - q, n - k);
        long not = (10 - p) * power(r, k) * power(10 - r, n - k);
        long common = commonDivisor(so, so + not);
        if (common <= 0) {
            return -2;
        }
        return tellTwo(0, so / common, (so + not) / common);
    }

    // ---- waiting, sharing, squares by turns

    public int waits() {
        int fault = faultInOffers();
        if (fault >= 0) {
            told.cutTo(0);
            return -1 - fault;
        }
        int most = -1;
        int bestSkip = 0;
        int place = 0;
        for (int s = 0; s < told.length; s++) {
            int taken = takenBehind(s);
            int offer = told.digit(taken, MOST_OFFERS);
            if (offer > most) {
                most = offer;
                bestSkip = s;
                place = taken;
            }
        }
        told.cutTo(0);
        return tellTwo(most, bestSkip, place);
    }

    public int shares(int v) {
        if (v < 0 || v > MOST_WATER) {
            return NONE;
        }
        numbers.clear();
        for (int i = 0; i < ground.villages; i++) {
            numbers.add(0);
        }
        int left = v;
        for (int round = 1; round <= 6; round++) {
            for (int i = 0; i < ground.villages && left > 0; i++) {
                if (ground.thirst[i] >= round) {
                    numbers.set(i, round);
                    left--;
                }
            }
        }
        return v - left;
    }

    public int squares(int n) {
        if (n < 0 || n > AT_ONCE) {
            return NONE;
        }
        long losing = 0;
        for (int m = 0; m <= n; m++) {
            if (winningSquare(m, losing) == 0) {
                losing |= 1L << m;
            }
        }
        int taken = winningSquare(n, losing);
        numbers.clear();
        if (taken == 0) {
            return 0;
        }
        numbers.add(taken);
        return 1;
    }

    // ---- rests, rules, years

    public int rests(int v) {
        if (v < 0 || v > 20) {
            return NONE;
        }
        numbers.clear();
        int pairs = 0;
        for (int x = 0; x <= MOST_TALK; x++) {
            for (int y = 0; y <= MOST_TALK; y++) {
                if (!isBestTalk(x, y, v) || !isBestTalk(y, x, v)) {
                    continue;
                }
                pairs++;
                if (pairs == 1) {
                    numbers.add(x);
                    numbers.add(y);
                }
            }
        }
        return pairs;
    }

    public int law() {
        int fault = readSpareRule();
        if (fault >= 0) {
            return -10000 - fault;
        }
        trial.take(now);
        int byIt = course.pass(trial, ground, spare, 10);
        int asItIs = tryAsItIs(10);
        return tellTwo(byIt - asItIs, byIt, asItIs);
    }

    public int years(int seed, int n) {
        if (n < 1 || n > AT_ONCE) {
            return NONE;
        }
        trial.take(now);
        lot.begin(seed);
        for (int i = 0; i < n; i++) {
            tryDrawn();
        }
        return tellTwo(trial.waterOfAll(), trial.size, trial.parchedSoFar - now.parchedSoFar);
    }

    // ---- kept

    public boolean keep(int i) {
        return past.store(i, now);
    }

    public boolean again(int i) {
        return past.bring(i, now);
    }

    public int count(int what) {
        switch (what) {
            case 0: return ground.rows;
            case 1: return ground.columns;
            case 2: return ground.villages;
            case 3: return now.size;
            case 4: return now.season;
            case 5: return now.parchedSoFar;
            case 6: return now.waterOfAll();
            case 7: return ground.thirstOfAll();
            case 8: return now.andsOfAll();
            case 9: return now.dryOnes();
            case 10: return hearsay.size;
            case 11: return past.size;
            case 12: return numbers.size;
            case 13: return told.length;
            default: return NONE;
        }
    }

    public long row(int i) throws NoSuchElementException {
        if (i < 0 || i >= numbers.size) {
            throw new NoSuchElementException();
        }
        return numbers.told[i];
    }

    // ---- helpers

    private int tellOne(int answer, long first) {
        numbers.clear();
        numbers.add(first);
        return answer;
    }

    private int tellTwo(int answer, long first, long second) {
        tellOne(answer, first);
        numbers.add(second);
        return answer;
    }

    private int tellThree(int answer, long first, long second, long third) {
        tellTwo(answer, first, second);
        numbers.add(third);
        return answer;
    }

    /** Behind before.take(now): an answer below 0 tells that nothing was done. */
    private int pushIfDone(int answer) {
        if (answer >= 0) {
            past.push(before);
        }
        return answer;
    }

    private static int put(int value, int most) {
        return Math.max(0, Math.min(most, value));
    }

    private static int asKind(int kind, int entry) {
        if (kind == 0) {
            return (byte) entry;
        }
        return kind == 1 ? (short) entry : entry;
    }

    private static boolean isFar(int v) {
        return v >= 0 && v <= MOST_FAR;
    }

    private static boolean isTried(int n) {
        return n >= 1 && n <= TRIED;
    }

    private static boolean isTenths(int p) {
        return p >= 0 && p <= 10;
    }

    /** Empties THE TEXT; the spare rule is whole only if there is no fault (-1). */
    private int readSpareRule() {
        int fault = told.length == 0 ? spare.read(NO_RULE, NO_RULE.length) : spare.read(told.signs, told.length);
        told.cutTo(0);
        return fault;
    }

    /** Adds THE TEXT's LINES to a state, up to the fault that it answers (-1: none). */
    private int readLines(State to) {
        int p = 0;
        for (int line = 0; line < MOST_WELLS && to.size < MOST_WELLS; line++) {
            int row = told.digit(p, WELLS_SIGNS);
            if (row < 0 || row >= ground.rows) {
                return p;
            }
            int column = told.digit(p + 1, WELLS_SIGNS);
            int field = ground.fieldAt(row, column);
            if (field < 0 || to.wellOn(field) >= 0) {
                return p + 1;
            }
            int w = told.digit(p + 2, WELLS_SIGNS);
            if (w < 1) {
                return p + 2;
            }
            int mark = told.at(p + 3, WELLS_SIGNS);
            if (mark != '.' && mark != ',') {
                return p + 3;
            }
            to.sayOn(field, w, mark == '.' ? 1 : 0);
            p += 4;
            if (p >= told.length) {
                return -1;
            }
            if (told.at(p, WELLS_SIGNS) != ';') {
                return p;
            }
            p++;
        }
        return p;
    }

    private int drawersFrom(int well) {
        int set = 0;
        for (int i = 0; i < ground.villages; i++) {
            if (now.nearestWater(ground, ground.home[i]) == well) {
                set |= 1 << i;
            }
        }
        return set;
    }

    /** The trial goes n SEASONS on from now: PARCHED more in these. */
    private int tryAsItIs(int n) {
        trial.take(now);
        return course.pass(trial, ground, ruling, n);
    }

    /** Whether a village has its THIRST in each of the trial's next n SEASONS; stops where it has not. */
    private boolean drinksItsFill(int village, int n) {
        for (int i = 0; i < n; i++) {
            course.passOne(trial, ground, ruling);
            if (course.drew[village] < ground.thirst[village]) {
                return false;
            }
        }
        return true;
    }

    /** What stands behind an ACT's letter: 0 a digit, 1 a digit but 0, . a full stop or a comma; empty: no ACT. */
    private static String shape(int letter) {
        switch (letter) {
            case 'n':
            case 'a':
            case 'c':
            case 'r':
                return "0";
            case 's':
                return "001.";
            case 'd':
                return "01";
            default:
                return "";
        }
    }

    private static boolean stands(char place, int sign) {
        if (place == '.') {
            return sign == '.' || sign == ',';
        }
        return sign >= place && sign <= '9';
    }

    private int faultInYear() {
        int p = 0;
        for (int i = 0; i <= YEAR_SIGNS && p < told.length; i++) {
            String places = shape(told.at(p, YEAR_SIGNS));
            if (places.isEmpty()) {
                return p;
            }
            p++;
            for (int j = 0; j < places.length(); j++) {
                if (!stands(places.charAt(j), told.at(p, YEAR_SIGNS))) {
                    return p;
                }
                p++;
            }
        }
        return -1;
    }

    /** Does the ACT whose letter stands at p: what its call answers. */
    private int act(int p) {
        int first = told.digit(p + 1, YEAR_SIGNS);
        int second = told.digit(p + 2, YEAR_SIGNS);
        switch (told.at(p, YEAR_SIGNS)) {
            case 'n':
                course.pass(now, ground, ruling, first);
                return now.waterOfAll();
            case 's': {
                int field = ground.fieldAt(first, second);
                int w = told.digit(p + 3, YEAR_SIGNS);
                int mark = told.at(p + 4, YEAR_SIGNS);
                return field < 0 ? NONE : now.sayOn(field, w, mark == '.' ? 1 : 0);
            }
            case 'a':
                return now.throwAnd(first);
            case 'c':
                return now.takeAnds(first);
            case 'd':
                return now.drawFrom(first, second);
            case 'r':
                return now.turn(first);
            default:
                return NONE;
        }
    }

    private int sideFrom(int field) {
        int row = ground.rowOf(field);
        int column = ground.columnOf(field);
        int room = Math.min(ground.rows - row, ground.columns - column);
        for (int i = 0; i < now.size; i++) {
            int down = ground.rowOf(now.field[i]) - row;
            int right = ground.columnOf(now.field[i]) - column;
            if (down >= 0 && right >= 0) {
                room = Math.min(room, Math.max(down, right));
            }
        }
        return room;
    }

    private static long power(int base, int times) {
        long product = 1;
        for (int i = 0; i < times; i++) {
            product *= base;
        }
        return product;
    }

    private static long commonDivisor(long a, long b) {
        long greater = b;
        long lesser = a;
        for (int i = 0; i < 100 && lesser != 0; i++) {
            long rest = greater % lesser;
            greater = lesser;
            lesser = rest;
        }
        return greater;
    }

    private int faultInOffers() {
        for (int p = 0; p < told.length; p++) {
            if (told.digit(p, MOST_OFFERS) < 0) {
                return p;
            }
        }
        return told.length == 0 ? 0 : -1;
    }

    /** Which place is taken when the first s OFFERS go by. */
    private int takenBehind(int s) {
        int high = -1;
        for (int p = 0; p < told.length; p++) {
            int offer = told.digit(p, MOST_OFFERS);
            if (offer > high) {
                if (p >= s) {
                    return p;
                }
                high = offer;
            }
        }
        return told.length - 1;
    }

    /** The least square by which m words become a number that loses (a bit of losing); 0: none. */
    private static int winningSquare(int m, long losing) {
        for (int i = 1; i * i <= m; i++) {
            if (((losing >>> (m - i * i)) & 1L) == 1L) {
                return i * i;
            }
        }
        return 0;
    }

    private static int talkIsWorth(int mine, int other, int v) {
        int words = mine <= 6 ? mine : 12 - mine;
        if (mine == other) {
            return words + v / 2;
        }
        return mine < other ? words + v : words;
    }

    private static boolean isBestTalk(int mine, int other, int v) {
        int worth = talkIsWorth(mine, other, v);
        for (int x = 0; x <= MOST_TALK; x++) {
            if (talkIsWorth(x, other, v) > worth) {
                return false;
            }
        }
        return true;
    }

    /** All numbers of a saying are drawn even if it can't be said. */
    private void tryDrawn() {
        int kind = lot.drawn(4);
        if (kind <= 1) {
            course.passOne(trial, ground, ruling);
        } else if (kind == 2) {
            int field = lot.drawn(ground.fields());
            int w = lot.drawn(9) + 1;
            trial.sayOn(field, w, lot.drawn(2));
        } else if (trial.size > 0) {
            trial.throwAnd(lot.drawn(trial.size));
        }
    }

    /** THE TEXT. */
    private static final class Text {
        private final char[] signs = new char[MOST_SIGNS];
        private int length;

        boolean addFour(int v) {
            if (length > MOST_SIGNS - 4) {
                return false;
            }
            for (int shift = 24; shift >= 0; shift -= 8) {
                signs[length] = (char) ((v >>> shift) & 255);
                length++;
            }
            return true;
        }

        boolean cutTo(int n) {
            if (n < 0 || n > length) {
                return false;
            }
            length = n;
            return true;
        }

        /** -1 at the end and from the limit on: it can stand nowhere, so both are faults like any wrong sign. */
        int at(int i, int limit) {
            return i >= 0 && i < length && i < limit ? signs[i] : -1;
        }

        int digit(int i, int limit) {
            int sign = at(i, limit);
            return sign >= '0' && sign <= '9' ? sign - '0' : -1;
        }
    }

    /** The ROW. */
    private static final class Numbers {
        private final long[] told = new long[MOST_WELLS];
        private int size;

        void clear() {
            size = 0;
        }

        void add(long number) {
            if (size < told.length) {
                told[size] = number;
                size++;
            }
        }

        void set(int i, long number) {
            if (i >= 0 && i < size) {
                told[i] = number;
            }
        }
    }

    /** THE PLAIN. */
    private static final class Ground {
        private int rows = 3;
        private int columns = 3;
        private int villages;
        private final int[] home = new int[MOST_VILLAGES];
        private final int[] thirst = new int[MOST_VILLAGES];
        // By FIELDS: how many VILLAGES are FAR 2 or less.
        private final int[] crowd = new int[MOST_FIELDS];

        int faultIn(Text text) {
            int down = text.digit(0, MOST_SIGNS);
            if (down < 3 || down > 6) {
                return 0;
            }
            int across = text.digit(1, MOST_SIGNS);
            if (across < 3 || across > 6) {
                return 1;
            }
            int past = 2 + down * across;
            int found = 0;
            for (int p = 2; p < past; p++) {
                int dry = text.digit(p, MOST_SIGNS);
                boolean isVillage = dry >= 1 && dry <= 6;
                found += isVillage ? 1 : 0;
                if (found > MOST_VILLAGES || !isVillage && text.at(p, MOST_SIGNS) != '.') {
                    return p;
                }
            }
            return text.length > past ? past : -1;
        }

        /** For a text without a fault. */
        void read(Text text) {
            rows = text.digit(0, MOST_SIGNS);
            columns = text.digit(1, MOST_SIGNS);
            villages = 0;
            for (int p = 2; p < text.length; p++) {
                int dry = text.digit(p, MOST_SIGNS);
                if (dry > 0 && villages < MOST_VILLAGES) {
                    home[villages] = p - 2;
                    thirst[villages] = dry;
                    villages++;
                }
            }
            for (int f = 0; f < fields(); f++) {
                crowd[f] = villagesNear(f, 2);
            }
        }

        int fields() {
            return rows * columns;
        }

        boolean hasField(int field) {
            return field >= 0 && field < fields();
        }

        boolean has(int village) {
            return village >= 0 && village < villages;
        }

        /** -1: there is no such FIELD. */
        int fieldAt(int row, int column) {
            boolean there = row >= 0 && row < rows && column >= 0 && column < columns;
            return there ? row * columns + column : -1;
        }

        int rowOf(int field) {
            return columns > 0 ? field / columns : 0;
        }

        int columnOf(int field) {
            return columns > 0 ? field % columns : 0;
        }

        int far(int a, int b) {
            return Math.abs(rowOf(a) - rowOf(b)) + Math.abs(columnOf(a) - columnOf(b));
        }

        int thirstOfAll() {
            int sum = 0;
            for (int i = 0; i < villages; i++) {
                sum += thirst[i];
            }
            return sum;
        }

        int crowdAt(int field) {
            return field >= 0 && field < MOST_FIELDS ? crowd[field] : 0;
        }

        private int villagesNear(int field, int v) {
            int near = 0;
            for (int i = 0; i < villages; i++) {
                near += far(home[i], field) <= v ? 1 : 0;
            }
            return near;
        }
    }

    /** What undo() brings back: WELLS, SEASON, PARCHED. */
    private static final class State {
        private int size;
        private final int[] field = new int[MOST_WELLS];
        private final int[] words = new int[MOST_WELLS];
        private final int[] meaning = new int[MOST_WELLS];
        private final int[] andsIn = new int[MOST_WELLS];
        private final int[] water = new int[MOST_WELLS];
        private int season;
        private int parchedSoFar;

        void empty() {
            size = 0;
            season = 0;
            parchedSoFar = 0;
        }

        void take(State other) {
            size = other.size;
            season = other.season;
            parchedSoFar = other.parchedSoFar;
            for (int i = 0; i < size; i++) {
                setFrom(other, i, i);
            }
        }

        private void setFrom(State other, int from, int to) {
            field[to] = other.field[from];
            words[to] = other.words[from];
            meaning[to] = other.meaning[from];
            andsIn[to] = other.andsIn[from];
            water[to] = other.water[from];
        }

        boolean has(int well) {
            return well >= 0 && well < size;
        }

        int depth(int well) {
            return meaning[well] == 1 ? 10 - words[well] : 1;
        }

        int wellOn(int on) {
            for (int i = 0; i < size; i++) {
                if (field[i] == on) {
                    return i;
                }
            }
            return -1;
        }

        /** For a FIELD, WORDS and a meaning that can be. */
        int sayOn(int on, int w, int isMeant) {
            if (wellOn(on) >= 0) {
                return -2;
            }
            if (size >= MOST_WELLS) {
                return -3;
            }
            field[size] = on;
            words[size] = w;
            meaning[size] = isMeant;
            andsIn[size] = 0;
            water[size] = 0;
            size++;
            return size - 1;
        }

        void drop(int well) {
            for (int i = well + 1; i < size; i++) {
                setFrom(this, i, i - 1);
            }
            size--;
        }

        int throwAnd(int well) {
            if (!has(well)) {
                return NONE;
            }
            if (andsIn[well] >= MOST_ANDS) {
                return -2;
            }
            andsIn[well]++;
            return andsIn[well];
        }

        int takeAnds(int well) {
            if (!has(well)) {
                return NONE;
            }
            int were = andsIn[well];
            andsIn[well] = 0;
            return were == 0 ? -2 : were;
        }

        int drawFrom(int well, int n) {
            if (!has(well) || n < 1 || n > MOST_WATER) {
                return NONE;
            }
            if (water[well] < n) {
                return -2;
            }
            water[well] -= n;
            return water[well];
        }

        int turn(int well) {
            if (!has(well)) {
                return NONE;
            }
            meaning[well] = 1 - meaning[well];
            return depth(well);
        }

        int waterOfAll() {
            int sum = 0;
            for (int i = 0; i < size; i++) {
                sum += water[i];
            }
            return sum;
        }

        int andsOfAll() {
            int sum = 0;
            for (int i = 0; i < size; i++) {
                sum += andsIn[i];
            }
            return sum;
        }

        int dryOnes() {
            int set = 0;
            for (int i = 0; i < size; i++) {
                if (water[i] == 0) {
                    set |= 1 << i;
                }
            }
            return set;
        }

        int howManyDry() {
            return Integer.bitCount(dryOnes());
        }

        /** -1: no WELL has WATER. */
        int nearestWater(Ground ground, int from) {
            int nearest = -1;
            int least = 0;
            for (int i = 0; i < size; i++) {
                if (water[i] == 0) {
                    continue;
                }
                int far = ground.far(from, field[i]);
                if (nearest < 0 || far < least) {
                    nearest = i;
                    least = far;
                }
            }
            return nearest;
        }

        int farApart(Ground ground, int a, int b) {
            return ground.far(field[a], field[b]);
        }

        boolean hasWellNear(Ground ground, int from, int v) {
            for (int i = 0; i < size; i++) {
                if (ground.far(from, field[i]) <= v) {
                    return true;
                }
            }
            return false;
        }
    }

    /** A rule, as steps on a stack: a NUMBER, or less than 0: a thing's letter or an operator's sign. */
    private static final class Rule {
        // No sign of a text has this number, so a text can't tell it.
        private static final int NEGATE = 256;
        private static final int MOST_NESTED = 4;

        private final int[] steps = new int[RULE_SIGNS];
        private final int[] waiting = new int[RULE_SIGNS];
        private final int[] stack = new int[RULE_SIGNS];
        private int size;
        private int held;
        private int nested;
        private int compared;
        private int digits;
        private boolean wantsThing;

        /** Where the text can't stand, or -1: only then this rule can be used. */
        int read(char[] signs, int length) {
            size = 0;
            held = 0;
            nested = 0;
            compared = 0;
            digits = 0;
            wantsThing = true;
            int most = Math.min(Math.min(length, RULE_SIGNS), signs.length);
            for (int p = 0; p < most; p++) {
                boolean can = wantsThing ? takeThing(signs[p]) : takeBehind(signs[p]);
                if (!can) {
                    return p;
                }
            }
            if (length > RULE_SIGNS || wantsThing || nested > 0) {
                return most;
            }
            release(1);
            return -1;
        }

        private boolean takeThing(int sign) {
            if (sign == '-') {
                hold(NEGATE);
                return true;
            }
            if (sign == '(') {
                return open();
            }
            boolean isDigit = sign >= '0' && sign <= '9';
            if (!isDigit && !isThing(sign)) {
                return false;
            }
            digits = isDigit ? 1 : 0;
            emit(isDigit ? sign - '0' : -sign);
            wantsThing = false;
            return true;
        }

        private boolean takeBehind(int sign) {
            if (sign >= '0' && sign <= '9') {
                return lengthen(sign - '0');
            }
            digits = 0;
            if (sign == ')') {
                return close();
            }
            int rank = rank(sign);
            if (rank == 0 || rank == 1 && (compared >> nested & 1) == 1) {
                return false;
            }
            if (rank == 1) {
                compared |= 1 << nested;
            }
            release(rank);
            hold(sign);
            wantsThing = true;
            return true;
        }

        private boolean lengthen(int digit) {
            if (digits < 1 || digits > 2 || size < 1) {
                return false;
            }
            digits++;
            steps[size - 1] = steps[size - 1] * 10 + digit;
            return true;
        }

        private boolean open() {
            if (nested >= MOST_NESTED) {
                return false;
            }
            nested++;
            compared &= ~(1 << nested);
            hold('(');
            return true;
        }

        private boolean close() {
            if (nested < 1) {
                return false;
            }
            release(1);
            held = Math.max(0, held - 1);
            nested--;
            return true;
        }

        private void hold(int sign) {
            if (held < waiting.length) {
                waiting[held] = sign;
                held++;
            }
        }

        private void emit(int step) {
            if (size < steps.length) {
                steps[size] = step;
                size++;
            }
        }

        /** What is held and binds as much or more goes first; a ( holds all ahead of it back. */
        private void release(int rank) {
            while (held > 0 && rank(waiting[held - 1]) >= rank) {
                held--;
                emit(-waiting[held]);
            }
        }

        private static boolean isThing(int sign) {
            switch (sign) {
                case 'w':
                case 'd':
                case 'a':
                case 'm':
                case 'v':
                case 'l':
                case 'n':
                    return true;
                default:
                    return false;
            }
        }

        /** How much an operator binds; 0: it is none. */
        private static int rank(int sign) {
            switch (sign) {
                case '<':
                case '>':
                case '=':
                    return 1;
                case '+':
                case '-':
                    return 2;
                case '*':
                case '/':
                    return 3;
                case NEGATE:
                    return 4;
                default:
                    return 0;
            }
        }

        int flow(State state, int well, Ground ground) {
            int top = 0;
            for (int i = 0; i < size; i++) {
                int step = steps[i];
                int rank = step < 0 ? rank(-step) : 0;
                if (rank == 4 && top >= 1) {
                    stack[top - 1] = -stack[top - 1];
                } else if (rank > 0 && top >= 2) {
                    top--;
                    stack[top - 1] = apply(-step, stack[top - 1], stack[top]);
                } else if (top < stack.length) {
                    stack[top] = step < 0 ? thing(-step, state, well, ground) : step;
                    top++;
                }
            }
            return put(stack[0], 9);
        }

        private static int apply(int sign, int a, int b) {
            switch (sign) {
                case '<': return a < b ? 1 : 0;
                case '>': return a > b ? 1 : 0;
                case '=': return a == b ? 1 : 0;
                case '+': return a + b;
                case '-': return a - b;
                case '*': return a * b;
                default: return b == 0 ? 0 : a / b;
            }
        }

        private static int thing(int letter, State state, int well, Ground ground) {
            switch (letter) {
                case 'w': return state.words[well];
                case 'd': return state.depth(well);
                case 'a': return state.andsIn[well];
                case 'm': return state.meaning[well];
                case 'v': return ground.crowdAt(state.field[well]);
                case 'l': return state.water[well];
                default: return state.season % 4;
            }
        }
    }

    /** Lets SEASONS go by, and knows what each VILLAGE drew in the last one. */
    private static final class Course {
        private final int[] drew = new int[MOST_VILLAGES];
        private final int[] drewFrom = new int[MOST_VILLAGES];

        /** PARCHED more in n SEASONS, as it grew. */
        int pass(State state, Ground ground, Rule rule, int n) {
            int ahead = state.parchedSoFar;
            for (int i = 0; i < n; i++) {
                passOne(state, ground, rule);
            }
            return state.parchedSoFar - ahead;
        }

        void passOne(State state, Ground ground, Rule rule) {
            // A WELL's FLOW looks at no other WELL's WATER, so each can rise at once.
            for (int i = 0; i < state.size; i++) {
                state.water[i] = put(state.water[i] + rule.flow(state, i, ground), MOST_WATER);
            }
            for (int i = 0; i < ground.villages; i++) {
                int from = state.nearestWater(ground, ground.home[i]);
                int much = from < 0 ? 0 : Math.min(ground.thirst[i], state.water[from]);
                if (from >= 0) {
                    state.water[from] -= much;
                }
                if (much < ground.thirst[i] && state.parchedSoFar < MOST_PARCHED) {
                    state.parchedSoFar++;
                }
                drew[i] = much;
                drewFrom[i] = from;
            }
            state.season++;
        }
    }

    /** What undo() and again() can bring back. */
    private static final class Past {
        private final State[] undos = new State[MOST_UNDO];
        private final State[] kept = new State[MOST_KEPT];
        private final boolean[] isKept = new boolean[MOST_KEPT];
        private int size;

        Past() {
            for (int i = 0; i < MOST_UNDO; i++) {
                undos[i] = new State();
            }
            for (int i = 0; i < MOST_KEPT; i++) {
                kept[i] = new State();
            }
        }

        void push(State state) {
            if (size >= MOST_UNDO) {
                State oldest = undos[0];
                for (int i = 1; i < MOST_UNDO; i++) {
                    undos[i - 1] = undos[i];
                }
                undos[MOST_UNDO - 1] = oldest;
                size = MOST_UNDO - 1;
            }
            undos[size].take(state);
            size++;
        }

        /** How many are left, or NONE if there is none to bring back. */
        int pop(State to) {
            if (size < 1) {
                return NONE;
            }
            size--;
            to.take(undos[size]);
            return size;
        }

        boolean store(int i, State state) {
            if (i < 0 || i >= MOST_KEPT) {
                return false;
            }
            kept[i].take(state);
            isKept[i] = true;
            return true;
        }

        boolean bring(int i, State to) {
            if (i < 0 || i >= MOST_KEPT || !isKept[i]) {
                return false;
            }
            to.take(kept[i]);
            size = 0;
            return true;
        }

        void forgetAll() {
            size = 0;
            for (int i = 0; i < MOST_KEPT; i++) {
                isKept[i] = false;
            }
        }
    }

    /** What was heard of a saying. */
    private static final class Hearsay {
        private final int[] whats = new int[MOST_HEARD];
        private final int[] values = new int[MOST_HEARD];
        private int size;

        int least(int what) {
            return what == 0 ? 1 : 0;
        }

        int greatest(int what) {
            switch (what) {
                case 0: return 9;
                case 1: return 1;
                case 2: return MOST_WATER;
                default: return 5;
            }
        }

        boolean add(int what, int v) {
            boolean can = what >= 0 && what <= 4 && v >= least(what) && v <= greatest(what);
            if (!can || size >= MOST_HEARD) {
                return false;
            }
            whats[size] = what;
            values[size] = v;
            size++;
            return true;
        }

        int fitting(State state, Ground ground) {
            int set = (1 << state.size) - 1;
            for (int i = 0; i < size; i++) {
                set = narrow(set, whats[i], values[i], state, ground);
            }
            return set;
        }

        /** Those WELLS of a set of which it is so. */
        int narrow(int set, int what, int v, State state, Ground ground) {
            int left = 0;
            for (int i = 0; i < state.size; i++) {
                if ((set >> i & 1) == 1 && isSo(what, v, i, state, ground)) {
                    left |= 1 << i;
                }
            }
            return left;
        }

        private boolean isSo(int what, int v, int well, State state, Ground ground) {
            switch (what) {
                case 0: return state.words[well] >= v;
                case 1: return state.meaning[well] == v;
                case 2: return state.water[well] >= v;
                case 3: return ground.rowOf(state.field[well]) == v;
                default: return ground.has(v) && state.nearestWater(ground, ground.home[v]) == well;
            }
        }
    }

    /** Tables for covers() and for routes, made once. */
    private static final class Ways {
        private final int[] steps = new int[MOST_WELLS];
        private final int[] reached = new int[MOST_FIELDS];
        private final int[] need = new int[(MOST_FIELDS + 1) * VILLAGE_SETS];

        /** For each FIELD and set of VILLAGES: the fewest FIELDS from that one on that cover the set. */
        void needFields(Ground ground, int v) {
            int fields = ground.fields();
            int sets = 1 << ground.villages;
            for (int set = 0; set < sets; set++) {
                need[fields * VILLAGE_SETS + set] = set == 0 ? 0 : MOST_FIELDS;
            }
            for (int f = fields - 1; f >= 0; f--) {
                reached[f] = 0;
                for (int i = 0; i < ground.villages; i++) {
                    reached[f] |= ground.far(f, ground.home[i]) <= v ? 1 << i : 0;
                }
                for (int set = 0; set < sets; set++) {
                    int taken = 1 + needed(f + 1, set & ~reached[f]);
                    need[f * VILLAGE_SETS + set] = Math.min(needed(f + 1, set), taken);
                }
            }
        }

        int needed(int field, int set) {
            int at = field * VILLAGE_SETS + set;
            return at >= 0 && at < need.length ? need[at] : MOST_FIELDS;
        }

        int covered(int field) {
            return field >= 0 && field < MOST_FIELDS ? reached[field] : 0;
        }

        /** How many steps of v or less it is from each WELL to one (-1: there is no way). */
        void countSteps(State state, Ground ground, int to, int v) {
            for (int i = 0; i < MOST_WELLS; i++) {
                steps[i] = i == to ? 0 : -1;
            }
            for (int ring = 0; ring < state.size; ring++) {
                for (int i = 0; i < state.size; i++) {
                    if (steps[i] < 0 && nextOne(state, ground, i, v, ring) >= 0) {
                        steps[i] = ring + 1;
                    }
                }
            }
        }

        /** The first WELL a step away from one, from which so many steps are left (-1: none). */
        int nextOne(State state, Ground ground, int from, int v, int left) {
            for (int i = 0; i < state.size; i++) {
                if (steps[i] == left && state.farApart(ground, from, i) <= v) {
                    return i;
                }
            }
            return -1;
        }

        boolean allReached(State state, Ground ground, int v) {
            countSteps(state, ground, 0, v);
            for (int i = 0; i < state.size; i++) {
                if (steps[i] < 0) {
                    return false;
                }
            }
            return true;
        }
    }

    /** DRAWS. */
    private static final class Lot {
        private int r;

        void begin(int seed) {
            r = seed;
        }

        int drawn(int n) {
            r = r * 1103515245 + 12345;
            return n > 0 ? (r >>> 16) % n : 0;
        }
    }
}
