import java.math.BigInteger;
import java.util.ArrayDeque;
import java.util.ArrayList;
import java.util.Arrays;
import java.util.Deque;
import java.util.List;
import java.util.NoSuchElementException;
import java.util.function.Predicate;
import java.util.regex.Matcher;
import java.util.regex.Pattern;

/**
 * The document once more, as slow and as plain as can be: each HOUR goes by in the whole house, each
 * search tries all there is. It shares no line with the class, so that the two can be compared.
 */
final class Model {
    static final int OUT = -1;

    /** What HOURS change. */
    static final class World {
        int[] ice = new int[9];
        int[] water = new int[9];
        int[] where = new int[5];
        int[] owes = new int[5];
        int[] fell = new int[5];
        int pond;
        int stove = -1;
        int now;
        int frost = 2;

        World copy() {
            World w = new World();
            w.ice = ice.clone();
            w.water = water.clone();
            w.where = where.clone();
            w.owes = owes.clone();
            w.fell = fell.clone();
            w.pond = pond;
            w.stove = stove;
            w.now = now;
            w.frost = frost;
            return w;
        }
    }

    /** What happened in HOURS. */
    static final class News {
        int melted;
        int gave;
        int fell;
        int falls;
        int[] given = new int[9];
    }

    /** A text that can't be read: where. */
    static final class Wrong extends Exception {
        private static final long serialVersionUID = 1;
        final int place;

        Wrong(int place) {
            this.place = place;
        }
    }

    interface Thing {
        int of(int[] facts);
    }

    final StringBuilder text = new StringBuilder();
    int columns;
    int storeys;
    int heat = 5;
    int price = 1;
    final List<int[]> warm = new ArrayList<>();
    Thing rule = f -> f[0] / 2;
    World world = new World();
    final Deque<World> done = new ArrayDeque<>();
    final World[] kept = new World[2];
    List<Long> row = new ArrayList<>();

    // ---- reading

    private String take() {
        String s = text.toString();
        text.setLength(0);
        return s;
    }

    int sign(int v) {
        if (text.length() + 4 > 80) {
            return -1;
        }
        for (int k = 3; k >= 0; k--) {
            text.append((char) ((v >> 8 * k) & 0xff));
        }
        return text.length();
    }

    boolean end(int n) {
        if (n < 0 || n > text.length()) {
            return false;
        }
        text.setLength(n);
        return true;
    }

    /** The least place such that no text that goes on from the signs up to it and with it is right. */
    private static int wrongPlace(String s, Predicate<String> begins) {
        for (int k = 1; k <= s.length(); k++) {
            if (!begins.test(s.substring(0, k))) {
                return k - 1;
            }
        }
        return s.length();
    }

    private static boolean couldGoOn(Pattern p, String s) {
        Matcher m = p.matcher(s);
        return m.matches() || m.hitEnd();
    }

    private static final Pattern[] HOUSES = new Pattern[3];

    static {
        for (int c = 1; c <= 3; c++) {
            String storey = "[0-9]{1,2}(?:,[0-9]{1,2}){" + (c - 1) + "}";
            HOUSES[c - 1] = Pattern.compile(storey + "(?:/" + storey + "){0,2}");
        }
    }

    int house() {
        String s = take();
        for (int c = 1; c <= 3; c++) {
            if (HOUSES[c - 1].matcher(s).matches()) {
                String[] told = s.split("[,/]");
                columns = c;
                storeys = told.length / c;
                int frost = world.frost;
                world = new World();
                world.frost = frost;
                warm.clear();
                done.clear();
                Arrays.fill(kept, null);
                for (int k = 0; k < told.length; k++) {
                    world.ice[3 * (k / c) + k % c] = Integer.parseInt(told[k]);
                }
                return told.length;
            }
        }
        return -1 - wrongPlace(s, b -> couldGoOn(HOUSES[0], b) || couldGoOn(HOUSES[1], b) || couldGoOn(HOUSES[2], b));
    }

    int people() {
        String s = take();
        if (s.isEmpty()) {
            return 0;
        }
        int room = 5 - warm.size();
        if (columns == 0 || room == 0) {
            return -1;
        }
        String line = "[a-" + (char) ('a' + columns - 1) + "][1-" + storeys + "]:[0-9]{6}";
        // Behind the last LINE for which there is room a ; can still stand.
        Pattern lines = Pattern.compile(line + "(?:;" + line + "){0," + (room - 1) + "}");
        Pattern full = Pattern.compile("(?:" + line + ";){" + room + "}");
        if (!lines.matcher(s).matches()) {
            return -1 - wrongPlace(s, b -> couldGoOn(lines, b) || couldGoOn(full, b));
        }
        String[] told = s.split(";");
        for (String one : told) {
            int p = warm.size();
            world.where[p] = 3 * (one.charAt(1) - '1') + one.charAt(0) - 'a';
            world.owes[p] = 0;
            world.fell[p] = 0;
            int[] w = new int[6];
            for (int k = 0; k < 6; k++) {
                w[k] = one.charAt(3 + k) - '0';
            }
            warm.add(w);
        }
        done.clear();
        for (int i = 0; i < 2; i++) {
            kept[i] = null;
        }
        return told.length;
    }

    private String rules;
    private int at;

    private char sign() {
        return at < rules.length() && at < 40 ? rules.charAt(at) : 0xffff;
    }

    int rule() {
        rules = take();
        at = 0;
        if (rules.isEmpty()) {
            rule = f -> f[0] / 2;
            return 0;
        }
        try {
            Thing told = least(0);
            if (at != rules.length()) {
                throw new Wrong(at);
            }
            rule = told;
            return 0;
        } catch (Wrong w) {
            return -1 - w.place;
        }
    }

    private Thing least(int depth) throws Wrong {
        Thing a = plus(depth);
        char c = sign();
        if (c != '<' && c != '>' && c != '=') {
            return a;
        }
        at++;
        Thing b = plus(depth);
        return f -> (c == '<' ? a.of(f) < b.of(f) : c == '>' ? a.of(f) > b.of(f) : a.of(f) == b.of(f)) ? 1 : 0;
    }

    private Thing plus(int depth) throws Wrong {
        Thing a = times(depth);
        while (sign() == '+' || sign() == '-') {
            char c = sign();
            at++;
            Thing left = a;
            Thing b = times(depth);
            a = f -> c == '+' ? left.of(f) + b.of(f) : left.of(f) - b.of(f);
        }
        return a;
    }

    private Thing times(int depth) throws Wrong {
        Thing a = thing(depth);
        while (sign() == '*' || sign() == '/') {
            char c = sign();
            at++;
            Thing left = a;
            Thing b = thing(depth);
            a = f -> {
                int l = left.of(f);
                int r = b.of(f);
                return c == '*' ? l * r : r == 0 ? 0 : l / r;
            };
        }
        return a;
    }

    private Thing thing(int depth) throws Wrong {
        char c = sign();
        if (c == '-') {
            at++;
            Thing a = thing(depth);
            return f -> -a.of(f);
        }
        if (c == '(' && depth < 4) {
            at++;
            Thing a = least(depth + 1);
            if (sign() != ')') {
                throw new Wrong(at);
            }
            at++;
            return a;
        }
        int letter = "wiafynh".indexOf(c);
        if (letter >= 0) {
            at++;
            return f -> f[letter];
        }
        int begin = at;
        while (at < begin + 3 && sign() >= '0' && sign() <= '9') {
            at++;
        }
        if (at == begin) {
            throw new Wrong(at);
        }
        int number = Integer.parseInt(rules.substring(begin, at));
        return f -> number;
    }

    // ---- the house, the people

    boolean isRoom(int r) {
        return r >= 0 && r <= 8 && r % 3 < columns && r / 3 < storeys;
    }

    boolean isPerson(int p) {
        return p >= 0 && p < warm.size();
    }

    List<Integer> rooms() {
        List<Integer> all = new ArrayList<>();
        for (int r = 0; r < 9; r++) {
            if (isRoom(r)) {
                all.add(r);
            }
        }
        return all;
    }

    List<Integer> lodgers() {
        List<Integer> all = new ArrayList<>();
        for (int p = 0; p < warm.size(); p++) {
            if (world.where[p] != OUT) {
                all.add(p);
            }
        }
        return all;
    }

    List<Integer> in(World w, int r) {
        List<Integer> all = new ArrayList<>();
        for (int p = 0; p < warm.size(); p++) {
            if (w.where[p] == r) {
                all.add(p);
            }
        }
        return all;
    }

    int bits(List<Integer> set) {
        int b = 0;
        for (int k : set) {
            b += 1 << k;
        }
        return b;
    }

    int warmth(World w, int r, List<Integer> set) {
        int sum = w.stove == r ? heat : 0;
        for (int p : set) {
            sum += warm.get(p)[w.now % 6];
        }
        return sum;
    }

    int melts(World w, int r, int warmth, int heads) {
        int m = rule.of(new int[] {warmth, w.ice[r], w.water[r], w.frost, r / 3, heads, w.now});
        return Math.max(0, Math.min(w.ice[r], m));
    }

    int melts(World w, int r) {
        return melts(w, r, warmth(w, r, in(w, r)), in(w, r).size());
    }

    int room(int r, int what) {
        if (!isRoom(r) || what < 0 || what > 5) {
            throw new NoSuchElementException();
        }
        return new int[] {world.ice[r], world.water[r], warmth(world, r, in(world, r)), melts(world, r),
            bits(in(world, r)), world.stove == r ? 1 : 0}[what];
    }

    int person(int p, int what) {
        if (!isPerson(p) || what < 0 || what > 4) {
            throw new NoSuchElementException();
        }
        return new int[] {world.where[p], world.owes[p], world.fell[p], warm.get(p)[world.now % 6],
            Arrays.stream(warm.get(p)).sum()}[what];
    }

    int set(int what, int v) {
        if (v < 0 || v > 9) {
            return -1;
        }
        int was = -1;
        if (what == 0) {
            was = heat;
            heat = v;
        }
        if (what == 1) {
            was = world.frost;
            world.frost = v;
        }
        if (what == 2) {
            was = price;
            price = v;
        }
        return was;
    }

    int doing(int p, int k, int v) {
        if (!isPerson(p) || k < 0 || k > 5 || v < 0 || v > 9) {
            return -1;
        }
        int was = warm.get(p)[k];
        warm.get(p)[k] = v;
        return was;
    }

    int sheet(int kind, int n, int f, int step) {
        if (kind < 0 || kind > 3 || n > 9) {
            return -1;
        }
        if (kind < 3 && n < 0) {
            return -2;
        }
        int sum = 0;
        for (int k = 0; k < rooms().size(); k++) {
            int v = f + k * step;
            if (kind == 0) {
                v = (v << 24) >> 24;
            }
            if (kind == 1) {
                v = (v << 16) >> 16;
            }
            if (k >= n || kind == 3 || v < 0) {
                v = 0;
            }
            v = Math.min(v, 99);
            world.ice[rooms().get(k)] = v;
            sum += v;
        }
        return kind == 3 ? -3 : sum;
    }

    // ---- hours

    private void remember(World ahead) {
        done.push(ahead.copy());
        if (done.size() > 12) {
            done.removeLast();
        }
    }

    private void tell(long... numbers) {
        row = new ArrayList<>();
        for (long n : numbers) {
            row.add(n);
        }
    }

    void pass(World w, News news) {
        int[] m = new int[9];
        for (int r : rooms()) {
            m[r] = melts(w, r);
            for (int p : in(w, r)) {
                w.owes[p] += price * warm.get(p)[w.now % 6];
            }
        }
        for (int y = storeys - 1; y >= 0; y--) {
            for (int x = 0; x < columns; x++) {
                int r = 3 * y + x;
                if (y == storeys - 1) {
                    w.pond += w.water[r];
                } else {
                    w.water[r + 3] += w.water[r];
                }
                w.water[r] = m[r];
                w.ice[r] -= m[r];
                news.melted += m[r];
            }
        }
        for (int r : rooms()) {
            for (int k = 0; k < w.frost; k++) {
                if (w.water[r] > 0 && w.ice[r] < 99) {
                    w.water[r]--;
                    w.ice[r]++;
                }
            }
        }
        for (int r : rooms()) {
            if (w.ice[r] == 0) {
                int to = r / 3 == storeys - 1 ? OUT : r + 3;
                news.gave |= 1 << r;
                news.given[r]++;
                for (int p : in(w, r)) {
                    w.where[p] = to;
                    w.fell[p]++;
                    news.fell |= 1 << p;
                    news.falls++;
                }
                if (w.stove == r) {
                    w.stove = to;
                }
            }
        }
        w.now++;
    }

    News go(World w, int n) {
        News news = new News();
        for (int k = 0; k < n; k++) {
            pass(w, news);
        }
        return news;
    }

    int move(int p, int r) {
        if (!isPerson(p) || !isRoom(r)) {
            return -1;
        }
        if (world.where[p] == r) {
            return -2;
        }
        remember(world);
        int was = world.where[p];
        world.where[p] = r;
        return was == OUT ? 9 : was;
    }

    int stove(int r) {
        if (r != -1 && !isRoom(r)) {
            return -1;
        }
        if (world.stove == r) {
            return -2;
        }
        remember(world);
        int was = world.stove;
        world.stove = r;
        return was == -1 ? 9 : was;
    }

    int hour() {
        return hours(1);
    }

    int hours(int n) {
        if (n < 0 || n > 60) {
            return -1;
        }
        if (n > 0) {
            remember(world);
        }
        News news = go(world, n);
        tell(news.gave, news.fell, world.pond);
        return news.melted;
    }

    int pay(int p, int n) {
        if (!isPerson(p) || n < 1 || n > 9999 || n > world.owes[p]) {
            return -1;
        }
        remember(world);
        world.owes[p] -= n;
        return world.owes[p];
    }

    private static final String ACT = "(?:h[1-9]?|m[0-9][a-c][1-3]|s-|s[a-c][1-3]|f[0-9])";
    private static final Pattern WINTER = Pattern.compile(ACT + "(?:;" + ACT + ")*+");

    int winter() {
        String s = take();
        if (!s.isEmpty() && (s.length() > 60 || !WINTER.matcher(s).matches())) {
            String begin = s.substring(0, Math.min(60, s.length()));
            return -1 - wrongPlace(begin, b -> couldGoOn(Pattern.compile(ACT + "(?:;" + ACT + ")*"), b));
        }
        World ahead = world.copy();
        Deque<World> doneAhead = new ArrayDeque<>(done);
        int count = 0;
        int melted = 0;
        int falls = 0;
        boolean stopped = false;
        for (String act : s.isEmpty() ? new String[0] : s.split(";")) {
            int answer = 0;
            char c = act.charAt(0);
            if (c == 'h') {
                News news = go(world, act.length() == 1 ? 1 : act.charAt(1) - '0');
                melted += news.melted;
                falls += news.falls;
            } else if (c == 'f') {
                world.frost = act.charAt(1) - '0';
            } else if (c == 'm') {
                answer = move(act.charAt(1) - '0', 3 * (act.charAt(3) - '1') + act.charAt(2) - 'a');
            } else {
                answer = stove(act.equals("s-") ? -1 : 3 * (act.charAt(2) - '1') + act.charAt(1) - 'a');
            }
            if (answer < 0) {
                stopped = true;
                break;
            }
            count++;
        }
        done.clear();
        done.addAll(doneAhead);
        if (count > 0) {
            remember(ahead);
        }
        tell(stopped ? 1 : 0, melted, falls);
        return count;
    }

    int undo() {
        if (done.isEmpty()) {
            return -1;
        }
        world = done.pop();
        return done.size();
    }

    // ---- hours to come

    int thick(int r, int n) {
        if (n < 0 || n > 100) {
            return -2;
        }
        if (!isRoom(r)) {
            return -3;
        }
        World w = world.copy();
        go(w, n);
        tell(w.water[r], w.pond);
        return w.ice[r];
    }

    /** The first HOUR behind which a floor is gone that is there now, 101 if none of 100 is. */
    int firstGone(World w, int most) {
        List<Integer> floors = new ArrayList<>();
        for (int r : rooms()) {
            if (w.ice[r] > 0) {
                floors.add(r);
            }
        }
        for (int k = 1; k <= most; k++) {
            go(w, 1);
            for (int r : floors) {
                if (w.ice[r] == 0) {
                    return k;
                }
            }
        }
        return most + 1;
    }

    boolean stands(World w, int n) {
        return firstGone(w.copy(), n) > n;
    }

    int standsFor(World w) {
        return firstGone(w.copy(), 100) - 1;
    }

    int gives() {
        int k = standsFor(world) + 1;
        if (k > 100) {
            return -2;
        }
        World w = world.copy();
        go(w, k - 1);
        News last = go(w, 1);
        for (int r : rooms()) {
            if (world.ice[r] > 0 && w.ice[r] == 0) {
                tell(r, last.fell);
                return k;
            }
        }
        throw new IllegalStateException("no floor is gone");
    }

    int drips(int n) {
        if (n < 0 || n > 100) {
            return -1;
        }
        World w = world.copy();
        go(w, n);
        int best = -1;
        for (int r : rooms()) {
            best = best == -1 || w.ice[r] > w.ice[best] ? r : best;
        }
        tell(best, best == -1 ? 0 : w.ice[best]);
        return w.pond - world.pond;
    }

    int coldest(int n) {
        if (n < 1 || n > 100) {
            return -1;
        }
        for (int f = 0; f < 10; f++) {
            World w = world.copy();
            w.frost = f;
            if (stands(w, n)) {
                return f;
            }
        }
        return -2;
    }

    // ---- who lives where

    private void places(List<Integer> who, List<Integer> ahead, List<List<Integer>> all) {
        if (ahead.size() == who.size()) {
            all.add(new ArrayList<>(ahead));
            return;
        }
        for (int r : rooms()) {
            if (!ahead.contains(r)) {
                ahead.add(r);
                places(who, ahead, all);
                ahead.remove(ahead.size() - 1);
            }
        }
    }

    private World lodged(List<Integer> who, List<Integer> places) {
        World w = world.copy();
        for (int k = 0; k < who.size(); k++) {
            w.where[who.get(k)] = places.get(k);
        }
        return w;
    }

    int lodge(int n) {
        if (n < 1 || n > 40) {
            return -1;
        }
        List<Integer> who = lodgers();
        if (who.size() > 4) {
            return -3;
        }
        List<List<Integer>> all = new ArrayList<>();
        places(who, new ArrayList<>(), all);
        List<Integer> first = null;
        int count = 0;
        for (List<Integer> way : all) {
            if (stands(lodged(who, way), n)) {
                count++;
                first = first == null ? way : first;
            }
        }
        tell(first == null ? new long[0] : first.stream().mapToLong(r -> r).toArray());
        return count;
    }

    int longest() {
        List<Integer> who = lodgers();
        if (who.size() > rooms().size()) {
            return -2;
        }
        if (who.size() > 4) {
            return -3;
        }
        List<List<Integer>> all = new ArrayList<>();
        places(who, new ArrayList<>(), all);
        List<Integer> best = null;
        int most = -1;
        for (List<Integer> way : all) {
            int k = standsFor(lodged(who, way));
            if (k > most) {
                most = k;
                best = way;
            }
        }
        tell(best.stream().mapToLong(r -> r).toArray());
        return most;
    }

    private boolean standsWithout(int n, int... doings) {
        int[] were = new int[doings.length];
        for (int k = 0; k < doings.length; k++) {
            were[k] = warm.get(doings[k] / 6)[doings[k] % 6];
            warm.get(doings[k] / 6)[doings[k] % 6] = 0;
        }
        boolean stands = stands(world, n);
        for (int k = 0; k < doings.length; k++) {
            warm.get(doings[k] / 6)[doings[k] % 6] = were[k];
        }
        if (stands) {
            tell(Arrays.stream(doings).mapToLong(d -> d).toArray());
        }
        return stands;
    }

    int quiet(int n) {
        if (n < 1 || n > 40) {
            return -1;
        }
        if (standsWithout(n)) {
            return 0;
        }
        int all = 6 * warm.size();
        for (int a = 0; a < all; a++) {
            if (standsWithout(n, a)) {
                return 1;
            }
        }
        for (int a = 0; a < all; a++) {
            for (int b = a + 1; b < all; b++) {
                if (standsWithout(n, a, b)) {
                    return 2;
                }
            }
        }
        for (int a = 0; a < all; a++) {
            for (int b = a + 1; b < all; b++) {
                for (int c = b + 1; c < all; c++) {
                    if (standsWithout(n, a, b, c)) {
                        return 3;
                    }
                }
            }
        }
        return -2;
    }

    int burden() {
        int best = -1;
        int most = -1;
        for (int p : lodgers()) {
            World w = world.copy();
            w.where[p] = OUT;
            if (standsFor(w) > most) {
                most = standsFor(w);
                best = p;
            }
        }
        if (best == -1) {
            return -2;
        }
        tell(most, standsFor(world));
        return best;
    }

    // ---- shares, who was warm

    private void tellFraction(BigInteger a, BigInteger b) {
        if (a.signum() == 0) {
            tell(0, 1);
            return;
        }
        BigInteger g = a.gcd(b);
        tell(a.divide(g).longValue(), b.divide(g).longValue());
    }

    int share(int p) {
        if (!isPerson(p)) {
            return -1;
        }
        int r = world.where[p];
        if (r == OUT) {
            return -2;
        }
        tellFraction(BigInteger.valueOf((long) melts(world, r) * warm.get(p)[world.now % 6]),
            BigInteger.valueOf(warmth(world, r, in(world, r))));
        return 0;
    }

    int charges(int n) {
        if (n < 0 || n > 100) {
            return -1;
        }
        long[] due = new long[warm.size()];
        World w = world.copy();
        for (int k = 0; k < n; k++) {
            for (int p = 0; p < due.length; p++) {
                due[p] += w.where[p] == OUT ? 0 : warm.get(p)[w.now % 6];
            }
            go(w, 1);
        }
        tell(due);
        return (int) Arrays.stream(due).max().orElse(0);
    }

    private List<Integer> set(int bits) {
        List<Integer> all = new ArrayList<>();
        for (int p = 0; p < 5; p++) {
            if ((bits & 1 << p) != 0) {
                all.add(p);
            }
        }
        return all;
    }

    int warm(int r, int v) {
        if (!isRoom(r) || v < 0 || v > 99) {
            return -1;
        }
        List<Integer> sets = new ArrayList<>();
        for (int b = 0; b < 1 << warm.size(); b++) {
            if (melts(world, r, warmth(world, r, set(b)), set(b).size()) == v) {
                sets.add(b);
            }
        }
        tell(sets.isEmpty() ? -1 : sets.get(0), sets.isEmpty() ? 0 : sets.stream().reduce(31, (a, b) -> a & b));
        return sets.size();
    }

    int look() {
        int best = -1;
        int most = 0;
        int top = 0;
        for (int r : rooms()) {
            List<Integer> told = new ArrayList<>();
            for (int b = 0; b < 1 << warm.size(); b++) {
                told.add(melts(world, r, warmth(world, r, set(b)), set(b).size()));
            }
            int count = (int) told.stream().distinct().count();
            if (count > most) {
                best = r;
                most = count;
                top = told.stream().max(Integer::compare).get();
            }
        }
        if (best == -1) {
            return -2;
        }
        tell(most, top);
        return best;
    }

    // ---- the stove

    private List<Integer> bestWay;
    private int leastMelted;

    private void ways(World w, int left, int melted, List<Integer> ahead) {
        if (left == 0) {
            if (bestWay == null || melted < leastMelted) {
                bestWay = new ArrayList<>(ahead);
                leastMelted = melted;
            }
            return;
        }
        List<Integer> next = new ArrayList<>();
        if (w.stove == -1) {
            next.add(-1);
        } else {
            for (int r : rooms()) {
                int far = Math.abs(r / 3 - w.stove / 3) + Math.abs(r % 3 - w.stove % 3);
                if (far <= 1) {
                    next.add(r);
                }
            }
        }
        for (int r : next) {
            World then = w.copy();
            then.stove = r;
            News news = go(then, 1);
            ahead.add(r == -1 ? 9 : r);
            ways(then, left - 1, melted + news.melted, ahead);
            ahead.remove(ahead.size() - 1);
        }
    }

    int carry(int n) {
        if (n < 1 || n > 5) {
            return -1;
        }
        if (world.stove == -1) {
            return -2;
        }
        bestWay = null;
        ways(world.copy(), n, 0, new ArrayList<>());
        tell(bestWay.stream().mapToLong(r -> r).toArray());
        return leastMelted;
    }

    private int meltedWith(int stove, int n) {
        World w = world.copy();
        w.stove = stove;
        return go(w, n).melted;
    }

    int hearth(int n) {
        if (n < 1 || n > 60) {
            return -1;
        }
        int best = -1;
        for (int r : rooms()) {
            if (best == -1 || meltedWith(r, n) < meltedWith(best, n)) {
                best = r;
            }
        }
        if (best == -1) {
            return -2;
        }
        tell(meltedWith(best, n), meltedWith(-1, n));
        return best;
    }

    // ---- each as he likes

    int rests(int one, int other, int v) {
        if (!isPerson(one) || !isPerson(other) || one == other || v < 0 || v > 99) {
            return -1;
        }
        int r = world.where[one];
        if (r == OUT || world.where[other] != r) {
            return -2;
        }
        int first = warm.get(one)[world.now % 6];
        int second = warm.get(other)[world.now % 6];
        int all = warmth(world, r, in(world, r));
        int[][] gets = new int[4][];
        for (int way = 0; way < 4; way++) {
            boolean f = way % 2 == 1;
            boolean s = way / 2 == 1;
            int m = melts(world, r, all - (f ? 0 : first) - (s ? 0 : second), in(world, r).size());
            gets[way] = new int[] {(f ? v : 0) - m, (s ? v : 0) - m};
        }
        int ways = 0;
        tell();
        for (int way = 3; way >= 0; way--) {
            int firstOther = way % 2 == 1 ? way - 1 : way + 1;
            int secondOther = way / 2 == 1 ? way - 2 : way + 2;
            if (gets[firstOther][0] <= gets[way][0] && gets[secondOther][1] <= gets[way][1]) {
                ways += 1 << way;
                tell(gets[way][0], gets[way][1]);
            }
        }
        return ways;
    }

    // ---- water, thaws

    int water() {
        int ice = Arrays.stream(world.ice).sum();
        int water = Arrays.stream(world.water).sum();
        tell(ice, water, world.pond);
        return ice + water + world.pond;
    }

    /** In how many of 10 to the power of n cases it stands for n HOURS. */
    private BigInteger cases(int n, int p) {
        BigInteger all = BigInteger.ZERO;
        for (int thaws = 0; thaws < 1 << n; thaws++) {
            World w = world.copy();
            BigInteger weight = BigInteger.ONE;
            boolean stands = true;
            for (int k = 0; k < n; k++) {
                boolean thaw = (thaws >> k & 1) != 0;
                weight = weight.multiply(BigInteger.valueOf(thaw ? p : 10 - p));
                w.frost = thaw ? 0 : world.frost;
                go(w, 1);
                for (int r : rooms()) {
                    stands &= world.ice[r] == 0 || w.ice[r] > 0;
                }
            }
            if (stands) {
                all = all.add(weight);
            }
        }
        return all;
    }

    int thaw(int n, int p) {
        if (n < 1 || n > 8 || p < 0 || p > 10) {
            return -1;
        }
        tellFraction(cases(n, p), BigInteger.TEN.pow(n));
        return 0;
    }

    int leave(int p, int v) {
        if (p < 0 || p > 10 || v < 0 || v > 100) {
            return -1;
        }
        for (int n = 1; n <= 8; n++) {
            if (cases(n, p).multiply(BigInteger.valueOf(100)).compareTo(
                BigInteger.TEN.pow(n).multiply(BigInteger.valueOf(v))) < 0) {
                return n - 1;
            }
        }
        return 8;
    }

    private long r;

    private int draw(int n) {
        r = (r * 1103515245L + 12345L) & 0xffffffffL;
        return (int) (r / 65536 % n);
    }

    int season(int seed, int n) {
        if (n < 1 || n > 60) {
            return -1;
        }
        r = seed & 0xffffffffL;
        World w = world.copy();
        News news = new News();
        for (int k = 0; k < n; k++) {
            w.frost = draw(10);
            int who = draw(warm.size() + 3);
            int hour = w.now % 6;
            int was = who < warm.size() ? warm.get(who)[hour] : 0;
            if (who < warm.size()) {
                warm.get(who)[hour] = 9;
            }
            pass(w, news);
            if (who < warm.size()) {
                warm.get(who)[hour] = was;
            }
        }
        int best = -1;
        for (int i = 8; i >= 0; i--) {
            if (news.given[i] > 0 && (best == -1 || news.given[i] >= news.given[best])) {
                best = i;
            }
        }
        tell(news.melted, best, best == -1 ? 0 : news.given[best]);
        return news.falls;
    }

    // ---- kept

    boolean keep(int i) {
        if (i < 0 || i > 1) {
            return false;
        }
        kept[i] = world.copy();
        return true;
    }

    boolean again(int i) {
        if (i < 0 || i > 1 || kept[i] == null) {
            return false;
        }
        world = kept[i].copy();
        done.clear();
        return true;
    }

    int count(int what) {
        int bare = 0;
        for (int k : rooms()) {
            bare |= world.ice[k] == 0 ? 1 << k : 0;
        }
        int[] all = {columns, storeys, warm.size(), bits(in(world, OUT)), world.stove, heat, world.frost, price,
            world.now, bare, done.size(), row.size(), text.length()};
        return what >= 0 && what < all.length ? all[what] : -100;
    }

    long row(int i) {
        if (i < 0 || i >= row.size()) {
            throw new NoSuchElementException();
        }
        return row.get(i);
    }
}
