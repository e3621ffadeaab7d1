import java.util.ArrayList;
import java.util.Arrays;
import java.util.List;
import java.util.function.IntBinaryOperator;
import java.util.regex.Matcher;
import java.util.regex.Pattern;

/** The document once more, slow and by other ways than the program's: what ModelTest compares it with. */
final class Model {
    private static final Pattern YEAR = Pattern.compile("(n\\d|a\\d|c\\d|r\\d|s\\d\\d[1-9][.,]|d\\d[1-9])*");

    static final class Well {
        int field;
        int words;
        int meant;
        int ands;
        int water;

        Well(int field, int words, int meant, int ands, int water) {
            this.field = field;
            this.words = words;
            this.meant = meant;
            this.ands = ands;
            this.water = water;
        }

        Well copy() {
            return new Well(field, words, meant, ands, water);
        }
    }

    static final class World {
        List<Well> wells = new ArrayList<>();
        int season;
        int parched;

        World copy() {
            World w = new World();
            for (Well one : wells) {
                w.wells.add(one.copy());
            }
            w.season = season;
            w.parched = parched;
            return w;
        }

        int water() {
            return wells.stream().mapToInt(w -> w.water).sum();
        }

        int dry() {
            return (int) wells.stream().filter(w -> w.water == 0).count();
        }
    }

    int rows = 3;
    int columns = 3;
    List<int[]> villages = new ArrayList<>();
    World world = new World();
    String rule = "d-a*2";
    String text = "";
    List<Long> row = new ArrayList<>();
    List<World> undos = new ArrayList<>();
    World[] kept = new World[2];
    List<int[]> heard = new ArrayList<>();

    // ---- the rule, read anew each time

    private String reading;
    private int at;
    private Well of;
    private World in;

    int flow(World world, Well well, String rule) {
        reading = rule;
        at = 0;
        of = well;
        in = world;
        return Math.max(0, Math.min(9, expression()));
    }

    private char next() {
        return at < reading.length() ? reading.charAt(at) : '$';
    }

    private int expression() {
        int left = sum();
        char c = next();
        if (c != '<' && c != '>' && c != '=') {
            return left;
        }
        at++;
        int right = sum();
        boolean so = c == '<' ? left < right : c == '>' ? left > right : left == right;
        return so ? 1 : 0;
    }

    private int sum() {
        int sum = product();
        while (next() == '+' || next() == '-') {
            boolean plus = next() == '+';
            at++;
            int other = product();
            sum = plus ? sum + other : sum - other;
        }
        return sum;
    }

    private int product() {
        int product = thing();
        while (next() == '*' || next() == '/') {
            boolean times = next() == '*';
            at++;
            int other = thing();
            product = times ? product * other : other == 0 ? 0 : product / other;
        }
        return product;
    }

    private int thing() {
        if (next() == '-') {
            at++;
            return -thing();
        }
        if (next() == '(') {
            at++;
            int inside = expression();
            at++;
            return inside;
        }
        if (Character.isDigit(next())) {
            int from = at;
            while (Character.isDigit(next())) {
                at++;
            }
            return Integer.parseInt(reading.substring(from, at));
        }
        char c = next();
        at++;
        switch (c) {
            case 'w': return of.words;
            case 'd': return depth(of);
            case 'a': return of.ands;
            case 'm': return of.meant;
            case 'v': return (int) villages.stream().filter(v -> far(v[0], of.field) <= 2).count();
            case 'l': return of.water;
            default: return in.season % 4;
        }
    }

    private static boolean isRule(String s) {
        if (Pattern.compile("x|[wdamvln)][wdamvln(0-9]|\\d[wdamvln(]|\\d{4}").matcher(s).find()) {
            return false;
        }
        // Things become x, then EXPRESSIONS in ( ) become x from the inside out: each time one level.
        String t = s.replaceAll("\\d+|[wdamvln]", "x");
        String flat = "-*x([+*/-]-*x)*([<>=]-*x([+*/-]-*x)*)?";
        for (int level = 0; level < 4; level++) {
            t = t.replaceAll("\\(" + flat + "\\)", "x");
        }
        return t.matches(flat);
    }

    private static boolean canBecomeRule(String s) {
        for (String thing : new String[] {"", "w"}) {
            for (int k = 0; k <= 4; k++) {
                if (isRule(s + thing + ")".repeat(k))) {
                    return true;
                }
            }
        }
        return false;
    }

    /** The sign that can't stand, or -1. */
    static int ruleFault(String s) {
        if (s.isEmpty()) {
            return -1;
        }
        for (int p = 0; p < s.length(); p++) {
            if (p == 40 || !canBecomeRule(s.substring(0, p + 1))) {
                return p;
            }
        }
        return isRule(s) ? -1 : s.length();
    }

    static int regexFault(Pattern pattern, String s, int most) {
        for (int p = 0; p < s.length(); p++) {
            Matcher m = pattern.matcher(s.substring(0, p + 1));
            if (p == most || !m.matches() && !m.hitEnd()) {
                return p;
            }
        }
        return pattern.matcher(s).matches() ? -1 : s.length();
    }

    // ---- things of the world

    int far(int a, int b) {
        return Math.abs(a / columns - b / columns) + Math.abs(a % columns - b % columns);
    }

    static int depth(Well w) {
        return w.meant == 1 ? 10 - w.words : 1;
    }

    int nearest(World world, int village) {
        int best = -1;
        for (int i = world.wells.size() - 1; i >= 0; i--) {
            Well w = world.wells.get(i);
            int home = villages.get(village)[0];
            if (w.water > 0 && (best < 0 || far(w.field, home) <= far(world.wells.get(best).field, home))) {
                best = i;
            }
        }
        return best;
    }

    /** For each village: what it drew, and where. */
    int[][] season(World world, String rule) {
        int[] flows = world.wells.stream().mapToInt(w -> flow(world, w, rule)).toArray();
        for (int i = 0; i < flows.length; i++) {
            world.wells.get(i).water = Math.min(99, world.wells.get(i).water + flows[i]);
        }
        int[][] drew = new int[villages.size()][];
        for (int i = 0; i < drew.length; i++) {
            int from = nearest(world, i);
            int much = 0;
            if (from >= 0) {
                much = Math.min(villages.get(i)[1], world.wells.get(from).water);
                world.wells.get(from).water -= much;
            }
            if (much < villages.get(i)[1]) {
                world.parched = Math.min(9999, world.parched + 1);
            }
            drew[i] = new int[] {much, from};
        }
        world.season++;
        return drew;
    }

    int pass(World world, int n, String rule) {
        int ahead = world.parched;
        for (int i = 0; i < n; i++) {
            season(world, rule);
        }
        return world.parched - ahead;
    }

    World ahead(int n) {
        World copy = world.copy();
        pass(copy, n, rule);
        return copy;
    }

    int wellOn(World world, int field) {
        for (int i = 0; i < world.wells.size(); i++) {
            if (world.wells.get(i).field == field) {
                return i;
            }
        }
        return -1;
    }

    int say(World world, int field, int w, int meant) {
        if (field < 0 || field >= rows * columns || w < 1 || w > 9 || meant < 0 || meant > 1) {
            return -1;
        }
        if (wellOn(world, field) >= 0) {
            return -2;
        }
        if (world.wells.size() == 8) {
            return -3;
        }
        world.wells.add(new Well(field, w, meant, 0, 0));
        return world.wells.size() - 1;
    }

    static int and(World world, int well) {
        if (well < 0 || well >= world.wells.size()) {
            return -1;
        }
        Well w = world.wells.get(well);
        return w.ands == 9 ? -2 : ++w.ands;
    }

    static int clear(World world, int well) {
        if (well < 0 || well >= world.wells.size()) {
            return -1;
        }
        Well w = world.wells.get(well);
        int were = w.ands;
        w.ands = 0;
        return were == 0 ? -2 : were;
    }

    static int draw(World world, int well, int n) {
        if (well < 0 || well >= world.wells.size() || n < 1 || n > 99) {
            return -1;
        }
        Well w = world.wells.get(well);
        if (w.water < n) {
            return -2;
        }
        w.water -= n;
        return w.water;
    }

    static int repent(World world, int well) {
        if (well < 0 || well >= world.wells.size()) {
            return -1;
        }
        Well w = world.wells.get(well);
        w.meant = w.meant == 1 ? 0 : 1;
        return depth(w);
    }

    // ---- the face

    private int tell(int answer, long... numbers) {
        row.clear();
        for (long one : numbers) {
            row.add(one);
        }
        return answer;
    }

    private void push(World was) {
        undos.add(was);
        if (undos.size() > 12) {
            undos.remove(0);
        }
    }

    private int pushed(World was, int answer) {
        if (answer >= 0) {
            push(was);
        }
        return answer;
    }

    private String taken() {
        String s = text;
        text = "";
        return s;
    }

    int sign(int v) {
        if (text.length() + 4 > 80) {
            return -1;
        }
        text += "" + (char) (v >> 24 & 255) + (char) (v >> 16 & 255) + (char) (v >> 8 & 255) + (char) (v & 255);
        return text.length();
    }

    int end(int n) {
        if (n < 0 || n > text.length()) {
            return 0;
        }
        text = text.substring(0, n);
        return 1;
    }

    int plain() {
        String s = taken();
        Pattern size = Pattern.compile("[3-6][3-6].*", Pattern.DOTALL);
        int fault = regexFault(size, s.substring(0, Math.min(2, s.length())), 99);
        if (fault >= 0) {
            return -1 - fault;
        }
        int r = s.charAt(0) - '0';
        int c = s.charAt(1) - '0';
        List<int[]> found = new ArrayList<>();
        for (int f = 0; f < r * c; f++) {
            if (f + 2 >= s.length()) {
                return -1 - s.length();
            }
            char sign = s.charAt(f + 2);
            if (sign != '.') {
                if (sign < '1' || sign > '6' || found.size() == 6) {
                    return -1 - (f + 2);
                }
                found.add(new int[] {f, sign - '0'});
            }
        }
        if (s.length() > r * c + 2) {
            return -1 - (r * c + 2);
        }
        rows = r;
        columns = c;
        villages = found;
        world = new World();
        undos.clear();
        kept = new World[2];
        return r * c;
    }

    int wells() {
        String s = taken();
        if (s.isEmpty()) {
            return 0;
        }
        World to = world.copy();
        for (int p = 0; p < Math.max(40, s.length()); p++) {
            int place = p % 5;
            if (p >= s.length() && place == 4) {
                break;
            }
            if (p >= s.length() || p == 39 || place == 0 && to.wells.size() == 8) {
                return -1 - p;
            }
            char c = s.charAt(p);
            boolean ok;
            switch (place) {
                case 0: ok = c >= '0' && c < '0' + rows; break;
                case 1: ok = c >= '0' && c < '0' + columns && wellOn(to, (s.charAt(p - 1) - '0') * columns + c - '0') < 0; break;
                case 2: ok = c >= '1' && c <= '9'; break;
                case 3: ok = c == '.' || c == ','; break;
                default: ok = c == ';'; break;
            }
            if (!ok) {
                return -1 - p;
            }
            if (place == 3) {
                int field = (s.charAt(p - 3) - '0') * columns + s.charAt(p - 2) - '0';
                to.wells.add(new Well(field, s.charAt(p - 1) - '0', c == '.' ? 1 : 0, 0, 0));
            }
        }
        int lines = to.wells.size() - world.wells.size();
        world = to;
        undos.clear();
        kept = new World[2];
        return lines;
    }

    int rule() {
        String s = taken();
        int fault = ruleFault(s);
        if (fault < 0) {
            rule = s.isEmpty() ? "d-a*2" : s;
        }
        return fault < 0 ? 0 : -1 - fault;
    }

    /** Answers null for an exception. */
    Integer well(int well, int what) {
        if (well < 0 || well >= world.wells.size() || what < 0 || what > 7) {
            return null;
        }
        Well w = world.wells.get(well);
        int from = 0;
        for (int i = 0; i < villages.size(); i++) {
            from += nearest(world, i) == well ? 1 << i : 0;
        }
        return new int[] {w.field, w.words, w.meant, w.ands, w.water, depth(w), flow(world, w, rule), from}[what];
    }

    Integer village(int village, int what) {
        if (village < 0 || village >= villages.size() || what < 0 || what > 3) {
            return null;
        }
        int[] v = villages.get(village);
        int near = nearest(world, village);
        return new int[] {v[0], v[1], near, near < 0 ? -1 : far(v[0], world.wells.get(near).field)}[what];
    }

    int sheet(int kind, int n, int f, int step) {
        if (kind < 0 || kind > 3 || n > 8) {
            return -1;
        }
        if (kind != 3 && n < 0) {
            return -2;
        }
        for (int i = 0; i < world.wells.size(); i++) {
            int entry = f + i * step;
            int got = kind == 0 ? (byte) entry : kind == 1 ? (short) entry : entry;
            world.wells.get(i).water = kind == 3 || i >= n ? 0 : Math.min(99, Math.max(0, got));
        }
        return kind == 3 ? -3 : world.water();
    }

    int seasons(int n) {
        if (n < 0 || n > 60) {
            return -1;
        }
        World was = world.copy();
        int more = pass(world, n, rule);
        if (n > 0) {
            push(was);
        }
        return tell(world.water(), more, world.dry());
    }

    int says(int field, int w, int meant) {
        World was = world.copy();
        return pushed(was, say(world, field, w, meant));
    }

    int ands(int well) {
        World was = world.copy();
        return pushed(was, and(world, well));
    }

    int clears(int well) {
        World was = world.copy();
        return pushed(was, clear(world, well));
    }

    int draws(int well, int n) {
        World was = world.copy();
        return pushed(was, draw(world, well, n));
    }

    int repents(int well) {
        World was = world.copy();
        return pushed(was, repent(world, well));
    }

    int year() {
        String s = taken();
        int fault = regexFault(YEAR, s, 60);
        if (fault >= 0) {
            return -1 - fault;
        }
        World was = world.copy();
        int done = 0;
        int stopped = 0;
        String[] acts = s.isEmpty() ? new String[0] : s.split("(?=[nsacdr])");
        for (String act : acts) {
            int[] d = act.substring(1).chars().map(c -> c - '0').toArray();
            int answer = 0;
            switch (act.charAt(0)) {
                case 'n': pass(world, d[0], rule); break;
                case 's': answer = d[0] >= rows || d[1] >= columns ? -1 : say(world, d[0] * columns + d[1], d[2], act.endsWith(".") ? 1 : 0); break;
                case 'a': answer = and(world, d[0]); break;
                case 'c': answer = clear(world, d[0]); break;
                case 'd': answer = draw(world, d[0], d[1]); break;
                default: answer = repent(world, d[0]); break;
            }
            if (answer < 0) {
                stopped = 1;
                break;
            }
            done++;
        }
        if (done > 0) {
            push(was);
        }
        return tell(done, stopped, world.water());
    }

    int undo() {
        if (undos.isEmpty()) {
            return -1;
        }
        world = undos.remove(undos.size() - 1);
        return undos.size();
    }

    int later(int well, int n) {
        if (well < 0 || well >= world.wells.size() || n < 0 || n > 99) {
            return -1;
        }
        World then = ahead(n);
        return tell(then.wells.get(well).water, then.water(), then.parched - world.parched);
    }

    int parched(int village) {
        if (village < 0 || village >= villages.size()) {
            return -1;
        }
        List<Integer> lacking = new ArrayList<>();
        World then = world.copy();
        for (int n = 1; n <= 99; n++) {
            if (season(then, rule)[village][0] < villages.get(village)[1]) {
                lacking.add(n);
            }
        }
        return lacking.isEmpty() ? -2 : tell(lacking.get(0), lacking.size());
    }

    int drinks(int village, int n) {
        if (village < 0 || village >= villages.size() || n < 1 || n > 99) {
            return -1;
        }
        int[] drew = season(ahead(n - 1), rule)[village];
        return tell(drew[0], drew[1]);
    }

    int rises(int well, int v) {
        if (well < 0 || well >= world.wells.size() || v < 0 || v > 99) {
            return -1;
        }
        for (int n = 0; n <= 99; n++) {
            int water = ahead(n).wells.get(well).water;
            if (water >= v) {
                return tell(n, water);
            }
        }
        return -2;
    }

    int richest(int n) {
        if (n < 0 || n > 99) {
            return -1;
        }
        if (world.wells.isEmpty()) {
            return -2;
        }
        World then = ahead(n);
        int most = then.wells.stream().mapToInt(w -> w.water).max().getAsInt();
        for (int i = 0; true; i++) {
            if (then.wells.get(i).water == most) {
                return tell(i, most, then.dry());
            }
        }
    }

    int thirst() {
        return villages.stream().mapToInt(v -> v[1]).sum();
    }

    int balance() {
        int flows = world.wells.stream().mapToInt(w -> flow(world, w, rule)).sum();
        return tell(1000 + flows - thirst(), flows, thirst());
    }

    int covers(int v) {
        if (v < 0 || v > 10) {
            return -1;
        }
        row.clear();
        for (int k = 0; true; k++) {
            List<Long> found = cover(k, 0, (1 << villages.size()) - 1, v);
            if (found != null) {
                row.addAll(found);
                return k;
            }
        }
    }

    /** The least k fields from one on, rising, that cover the villages left; null: none. */
    private List<Long> cover(int k, int from, int left, int v) {
        if (k == 0) {
            return left == 0 ? new ArrayList<>() : null;
        }
        for (int f = from; f < rows * columns; f++) {
            int rest = left;
            for (int i = 0; i < villages.size(); i++) {
                rest &= far(f, villages.get(i)[0]) <= v ? ~(1 << i) : -1;
            }
            // of the fewest, none is idle: that spares the search most of its time
            List<Long> found = rest == left ? null : cover(k - 1, f + 1, rest, v);
            if (found != null) {
                found.add(0, (long) f);
                return found;
            }
        }
        return null;
    }

    int best(int w, int n) {
        if (w < 1 || w > 9 || n < 1 || n > 30) {
            return -1;
        }
        if (world.wells.size() == 8) {
            return -2;
        }
        int[] found = {-1, Integer.MAX_VALUE};
        for (int f = 0; f < rows * columns; f++) {
            World copy = world.copy();
            if (say(copy, f, w, 1) >= 0) {
                int more = pass(copy, n, rule);
                if (more < found[1]) {
                    found = new int[] {f, more};
                }
            }
        }
        return tell(found[0], found[1]);
    }

    int longest(int field, int village, int n) {
        if (field < 0 || field >= rows * columns || village < 0 || village >= villages.size() || n < 1 || n > 30) {
            return -1;
        }
        if (wellOn(world, field) >= 0 || world.wells.size() == 8) {
            return -3;
        }
        int found = -2;
        long water = 0;
        for (int w = 1; w <= 9; w++) {
            World copy = world.copy();
            int made = say(copy, field, w, 1);
            boolean never = true;
            for (int i = 0; i < n; i++) {
                never &= season(copy, rule)[village][0] == villages.get(village)[1];
            }
            if (never) {
                found = w;
                water = copy.wells.get(made).water;
            }
        }
        return found < 0 ? -2 : tell(found, water);
    }

    int dearest(int n) {
        if (n < 1 || n > 30) {
            return -1;
        }
        if (world.wells.isEmpty()) {
            return -2;
        }
        int[] found = {-1, -1};
        for (int i = 0; i < world.wells.size(); i++) {
            World copy = world.copy();
            copy.wells.remove(i);
            int more = pass(copy, n, rule);
            if (more > found[1]) {
                found = new int[] {i, more};
            }
        }
        return tell(found[0], found[1], pass(world.copy(), n, rule));
    }

    int bears(int well, int n) {
        if (well < 0 || well >= world.wells.size() || n < 1 || n > 30) {
            return -1;
        }
        int without = 0;
        int found = 0;
        int then = 0;
        for (int k = 0; world.wells.get(well).ands + k <= 9; k++) {
            World copy = world.copy();
            copy.wells.get(well).ands += k;
            int more = pass(copy, n, rule);
            if (k == 0) {
                without = more;
            }
            if (more <= without) {
                found = k;
                then = more;
            }
        }
        return tell(found, then);
    }

    private int[] pair(IntBinaryOperator isBetter) {
        int[] found = null;
        int n = world.wells.size();
        for (int i = n - 1; i >= 0; i--) {
            for (int j = n - 1; j > i; j--) {
                int far = farApart(i, j);
                if (found == null || far == found[2] || isBetter.applyAsInt(far, found[2]) == 1) {
                    found = new int[] {i, j, far};
                }
            }
        }
        return found;
    }

    private int farApart(int i, int j) {
        return far(world.wells.get(i).field, world.wells.get(j).field);
    }

    int twins() {
        int[] pair = pair((a, b) -> a < b ? 1 : 0);
        return pair == null ? -2 : tell(pair[2], pair[0], pair[1]);
    }

    int route(int from, int to, int v) {
        int n = world.wells.size();
        if (from < 0 || from >= n || to < 0 || to >= n || v < 0 || v > 10) {
            return -1;
        }
        List<List<Integer>> ways = new ArrayList<>();
        ways.add(List.of(from));
        for (int k = 1; k <= n; k++) {
            List<List<Integer>> longer = new ArrayList<>();
            for (List<Integer> way : ways) {
                int last = way.get(way.size() - 1);
                if (last == to) {
                    row.clear();
                    way.forEach(i -> row.add((long) i));
                    return k;
                }
                for (int i = 0; i < n; i++) {
                    if (!way.contains(i) && farApart(last, i) <= v) {
                        List<Integer> more = new ArrayList<>(way);
                        more.add(i);
                        longer.add(more);
                    }
                }
            }
            ways = longer;
        }
        return -2;
    }

    int reach() {
        int n = world.wells.size();
        int[] pair = pair((a, b) -> a > b ? 1 : 0);
        if (pair == null) {
            return -2;
        }
        int[][] least = new int[n][n];
        for (int i = 0; i < n; i++) {
            for (int j = 0; j < n; j++) {
                least[i][j] = farApart(i, j);
            }
        }
        for (int k = 0; k < n; k++) {
            for (int i = 0; i < n; i++) {
                for (int j = 0; j < n; j++) {
                    least[i][j] = Math.min(least[i][j], Math.max(least[i][k], least[k][j]));
                }
            }
        }
        int v = Arrays.stream(least).flatMapToInt(Arrays::stream).max().getAsInt();
        return tell(v, pair[0], pair[1], pair[2]);
    }

    int square() {
        for (int side = Math.min(rows, columns); side >= 1; side--) {
            for (int f = 0; f < rows * columns; f++) {
                boolean dry = f / columns + side <= rows && f % columns + side <= columns;
                for (int i = 0; dry && i < side * side; i++) {
                    dry = wellOn(world, f + i / side * columns + i % side) < 0;
                }
                if (dry) {
                    return tell(side, f);
                }
            }
        }
        return tell(0);
    }

    long dry(int v) {
        if (v < 0 || v > 10) {
            return -1;
        }
        long set = 0;
        for (int f = 0; f < rows * columns; f++) {
            int field = f;
            set |= world.wells.stream().anyMatch(w -> far(w.field, field) <= v) ? 0 : 1L << f;
        }
        long all = set;
        tell(0, Long.bitCount(set), villages.stream().filter(w -> (all >> w[0] & 1) == 1).count());
        return set;
    }

    int heard(int what, int v) {
        int[][] limits = {{1, 9}, {0, 1}, {0, 99}, {0, 5}, {0, 5}};
        if (what < 0 || what > 4 || v < limits[what][0] || v > limits[what][1] || heard.size() == 12) {
            return -1;
        }
        heard.add(new int[] {what, v});
        return heard.size();
    }

    int forget() {
        int were = heard.size();
        heard.clear();
        return were;
    }

    private boolean isSo(int i, int what, int v) {
        Well w = world.wells.get(i);
        switch (what) {
            case 0: return w.words >= v;
            case 1: return w.meant == v;
            case 2: return w.water >= v;
            case 3: return w.field / columns == v;
            default: return v < villages.size() && nearest(world, v) == i;
        }
    }

    private List<Integer> fitting() {
        List<Integer> set = new ArrayList<>();
        for (int i = 0; i < world.wells.size(); i++) {
            boolean fits = true;
            for (int[] one : heard) {
                fits &= isSo(i, one[0], one[1]);
            }
            if (fits) {
                set.add(i);
            }
        }
        return set;
    }

    int fits() {
        List<Integer> set = fitting();
        return tell(set.stream().mapToInt(i -> 1 << i).sum(), set.size());
    }

    int asks() {
        List<Integer> set = fitting();
        if (set.isEmpty()) {
            return -2;
        }
        int[] codes = {1, 2, 3, 4, 5, 6, 7, 8, 9, 10, 11, 30, 31, 32, 33, 34, 35};
        int[] found = {0, 99};
        for (int code : codes) {
            int so = (int) set.stream().filter(i -> isSo(i, code / 10, code % 10)).count();
            int most = Math.max(so, set.size() - so);
            if (most < found[1]) {
                found = new int[] {code, most};
            }
        }
        return tell(found[0], found[1]);
    }

    int meant(int p, int q, int r, int n, int k) {
        for (int tenths : new int[] {p, q, r}) {
            if (tenths < 0 || tenths > 10) {
                return -1;
            }
        }
        if (n < 0 || n > 7 || k < 0 || k > n) {
            return -1;
        }
        java.math.BigInteger so = big(p).multiply(big(q).pow(k)).multiply(big(10 - q).pow(n - k));
        java.math.BigInteger not = big(10 - p).multiply(big(r).pow(k)).multiply(big(10 - r).pow(n - k));
        java.math.BigInteger all = so.add(not);
        if (all.signum() == 0) {
            return -2;
        }
        java.math.BigInteger g = so.gcd(all);
        return tell(0, so.divide(g).longValueExact(), all.divide(g).longValueExact());
    }

    private static java.math.BigInteger big(int n) {
        return java.math.BigInteger.valueOf(n);
    }

    int waits() {
        String s = taken();
        for (int p = 0; p < s.length(); p++) {
            if (p == 16 || s.charAt(p) < '0' || s.charAt(p) > '9') {
                return -1 - p;
            }
        }
        if (s.isEmpty()) {
            return -1;
        }
        int[] found = {-1, 0, 0};
        for (int skip = s.length() - 1; skip >= 0; skip--) {
            int high = s.substring(0, skip).chars().max().orElse('0' - 1);
            int place = skip;
            while (place < s.length() - 1 && s.charAt(place) <= high) {
                place++;
            }
            if (s.charAt(place) - '0' >= found[0]) {
                found = new int[] {s.charAt(place) - '0', skip, place};
            }
        }
        return tell(found[0], found[1], found[2]);
    }

    int shares(int v) {
        if (v < 0 || v > 99) {
            return -1;
        }
        int left = Math.min(v, thirst());
        int level = 0;
        // all up to a level that the water still fills; then one each to the first that thirst for more
        while (level < 6 && filled(level + 1) <= left) {
            level++;
        }
        int over = left - filled(level);
        row.clear();
        for (int[] one : villages) {
            int extra = over > 0 && one[1] > level ? 1 : 0;
            over -= extra;
            row.add((long) Math.min(one[1], level) + extra);
        }
        return left;
    }

    private int filled(int level) {
        return villages.stream().mapToInt(v -> Math.min(v[1], level)).sum();
    }

    private static boolean wins(int n, Boolean[] known) {
        if (known[n] == null) {
            known[n] = false;
            for (int i = 1; i * i <= n; i++) {
                known[n] |= !wins(n - i * i, known);
            }
        }
        return known[n];
    }

    int squares(int n) {
        if (n < 0 || n > 60) {
            return -1;
        }
        Boolean[] known = new Boolean[61];
        if (!wins(n, known)) {
            return tell(0);
        }
        int i = 1;
        while (wins(n - i * i, known)) {
            i++;
        }
        return tell(1, i * i);
    }

    int rests(int v) {
        if (v < 0 || v > 20) {
            return -1;
        }
        int[] words = {0, 1, 2, 3, 4, 5, 6, 5, 4, 3};
        int[][] worth = new int[10][10];
        for (int x = 0; x < 10; x++) {
            for (int y = 0; y < 10; y++) {
                worth[x][y] = words[x] + (x < y ? v : x == y ? v / 2 : 0);
            }
        }
        int found = 0;
        row.clear();
        for (int x = 0; x < 10; x++) {
            for (int y = 0; y < 10; y++) {
                int mostX = 0;
                int mostY = 0;
                for (int z = 0; z < 10; z++) {
                    mostX = Math.max(mostX, worth[z][y]);
                    mostY = Math.max(mostY, worth[z][x]);
                }
                if (worth[x][y] == mostX && worth[y][x] == mostY && found++ == 0) {
                    tell(0, x, y);
                }
            }
        }
        return found;
    }

    int law() {
        String s = taken();
        int fault = ruleFault(s);
        if (fault >= 0) {
            return -10000 - fault;
        }
        int by = pass(world.copy(), 10, s.isEmpty() ? "d-a*2" : s);
        int is = pass(world.copy(), 10, rule);
        return tell(by - is, by, is);
    }

    private int r;

    private int drawn(int n) {
        r = r * 1103515245 + 12345;
        return (int) ((r & 0xffffffffL) / 65536 % n);
    }

    int years(int seed, int n) {
        if (n < 1 || n > 60) {
            return -1;
        }
        World then = world.copy();
        r = seed;
        for (int i = 0; i < n; i++) {
            switch (drawn(4)) {
                case 0:
                case 1:
                    season(then, rule);
                    break;
                case 2: {
                    int field = drawn(rows * columns);
                    int w = 1 + drawn(9);
                    int meant = drawn(2);
                    say(then, field, w, meant);
                    break;
                }
                default:
                    if (!then.wells.isEmpty()) {
                        and(then, drawn(then.wells.size()));
                    }
                    break;
            }
        }
        return tell(then.water(), then.wells.size(), then.parched - world.parched);
    }

    int keep(int i) {
        if (i < 0 || i > 1) {
            return 0;
        }
        kept[i] = world.copy();
        return 1;
    }

    int again(int i) {
        if (i < 0 || i > 1 || kept[i] == null) {
            return 0;
        }
        world = kept[i].copy();
        undos.clear();
        return 1;
    }

    int count(int what) {
        int dryOnes = 0;
        for (int i = 0; i < world.wells.size(); i++) {
            dryOnes |= world.wells.get(i).water == 0 ? 1 << i : 0;
        }
        int[] counts = {rows, columns, villages.size(), world.wells.size(), world.season, world.parched, world.water(), thirst(),
            world.wells.stream().mapToInt(w -> w.ands).sum(), dryOnes, heard.size(), undos.size(), row.size(), text.length()};
        return what < 0 || what > 13 ? -1 : counts[what];
    }

    Long row(int i) {
        return i < 0 || i >= row.size() ? null : row.get(i);
    }
}
