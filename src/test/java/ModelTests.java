import java.util.NoSuchElementException;
import java.util.Random;

/** Runs of calls drawn by seeds, each answered by the class and by the model alike. */
public final class ModelTests {
    private static final int CALLS = 42;
    /** An object is used for at most 512 calls, of which the last 160 compare all that can be told. */
    private static final int ENOUGH = 310;
    private LetByTheDegree x;
    private Model m;
    private Random random;
    private int run;
    private String last;
    private int wrong;
    private int used;

    public static void main(String[] args) {
        int from = args.length > 0 ? Integer.parseInt(args[0]) : 0;
        int runs = args.length > 1 ? Integer.parseInt(args[1]) : 1200;
        int failed = 0;
        for (int run = from; run < from + runs; run++) {
            ModelTests t = new ModelTests();
            if (run % 2 == 0) {
                t.anyCalls(run);
            } else {
                t.questions(run);
            }
            t.compare();
            if (t.wrong > 0) {
                failed++;
            }
        }
        System.out.println((runs - failed) + " passed, " + failed + " failed");
        if (failed > 0) {
            System.exit(1);
        }
    }

    private void begin(int seed) {
        run = seed;
        random = new Random(seed * 7919L + 17);
        x = new LetByTheDegree();
        m = new Model();
    }

    /** Houses in which floors give now and then, and mostly questions. */
    private void questions(int seed) {
        begin(seed);
        for (int k = 0; k < 8 && goesOn(); k++) {
            thinHouse();
            for (int i = 0; i < 8 && goesOn(); i++) {
                int call = to(4) == 0 ? 6 + to(34) : 20 + to(19);
                step(call == 8 ? 13 : call);
                compareRow();
            }
        }
    }

    private void thinHouse() {
        int c = 1 + to(3);
        int s = 1 + to(3);
        int high = 2 + to(12);
        StringBuilder b = new StringBuilder();
        for (int k = 0; k < c * s; k++) {
            b.append(k == 0 ? "" : k % c == 0 ? "/" : ",").append(to(12) == 0 ? 0 : 1 + to(high));
        }
        type(b.toString());
        last = "house()";
        due(x.house(), m.house());
        b.setLength(0);
        int most = new int[] {2, 4, 6, 10}[to(4)];
        int people = 1 + to(to(3) == 0 ? 5 : 4);
        for (int p = 0; p < people; p++) {
            b.append(p == 0 ? "" : ";").append((char) ('a' + to(c))).append(1 + to(s)).append(':');
            for (int k = 0; k < 6; k++) {
                b.append(to(3) == 0 ? 0 : to(most));
            }
        }
        type(b.toString());
        last = "people()";
        due(x.people(), m.people());
        String[] rules = {"", "w/2", "w/3", "w", "w/2+(a>3)", "w-3", "(w>3)*2", "w*2/(i+1)", "w/2-y", "w*n/4", "w/(1+f)",
            "w*(h<3)+h/9", "(w+h)/4", "w/2+(i=2)", "w/4+(w>6)*2-a/3"};
        type(rules[to(rules.length)]);
        last = "rule()";
        due(x.rule(), m.rule());
        // With any FROST no floor ever gives: of what melts, some is ICE again at once.
        int frost = to(5) > 0 ? 0 : to(10);
        last = "set(1, " + frost + ")";
        due(x.set(1, frost), m.set(1, frost));
        if (to(2) == 0) {
            int r = room();
            last = "stove(" + r + ")";
            due(x.stove(r), m.stove(r));
            int heat = to(6);
            last = "set(0, " + heat + ")";
            due(x.set(0, heat), m.set(0, heat));
        }
        if (to(3) == 0) {
            int n = to(4);
            last = "hours(" + n + ")";
            due(x.hours(n), m.hours(n));
        }
        compareRow();
    }

    private boolean goesOn() {
        return wrong == 0 && used < ENOUGH;
    }

    private void anyCalls(int seed) {
        begin(seed);
        int calls = 30 + random.nextInt(120);
        boolean told = random.nextInt(20) > 0;
        for (int k = 0; k < calls && goesOn(); k++) {
            if (told && k == 0) {
                type(houseText());
                last = "house()";
                due(x.house(), m.house());
                type(peopleText());
                last = "people()";
                due(x.people(), m.people());
            } else {
                step(random.nextInt(CALLS));
            }
            compareRow();
        }
    }

    private void due(long got, long want) {
        used++;
        if (got != want) {
            wrong++;
            System.out.println("run " + run + ": " + last + " answered " + got + ", due is " + want);
        }
    }

    private int to(int n) {
        return random.nextInt(n);
    }

    /** A number of a range, seldom one beside it. */
    private int near(int low, int high) {
        int k = to(12);
        return k == 0 ? low - 1 : k == 1 ? high + 1 : k == 2 ? low : k == 3 ? high : k == 4 ? random.nextInt()
            : low + to(high - low + 1);
    }

    private int person() {
        int n = m.warm.size();
        return n == 0 || to(15) == 0 ? to(8) - 1 : to(n);
    }

    private int room() {
        return m.rooms().isEmpty() || to(15) == 0 ? to(12) - 2 : m.rooms().get(to(m.rooms().size()));
    }

    private int few(int high) {
        return to(8) == 0 ? near(0, high) : 1 + to(Math.min(high, 12));
    }

    private void type(String s) {
        for (int k = 0; k < s.length(); k += 4) {
            int v = 0;
            for (int i = 0; i < 4; i++) {
                v = v << 8 | (k + i < s.length() ? s.charAt(k + i) : to(256));
            }
            last = "sign(" + v + ")";
            due(x.sign(v), m.sign(v));
        }
        last = "end(" + s.length() + ")";
        due(x.end(s.length()) ? 1 : 0, m.end(s.length()) ? 1 : 0);
    }

    /** Mostly the text itself, now and then with a sign less, more or another. */
    private String perhapsSpoilt(String s, String signs) {
        if (to(4) > 0) {
            return s;
        }
        StringBuilder b = new StringBuilder(s);
        for (int k = to(3); k >= 0; k--) {
            int at = to(b.length() + 1);
            char c = to(10) == 0 ? (char) to(256) : signs.charAt(to(signs.length()));
            switch (to(4)) {
                case 0: b.insert(at, c); break;
                case 1: b.setLength(at); break;
                case 2: if (at < b.length()) b.deleteCharAt(at); break;
                default: if (at < b.length()) b.setCharAt(at, c);
            }
        }
        return b.length() > 80 ? b.substring(0, 80) : b.toString();
    }

    private String houseText() {
        int c = 1 + to(3);
        int s = 1 + to(3);
        int high = new int[] {3, 8, 15, 40, 100}[to(5)];
        StringBuilder b = new StringBuilder();
        for (int y = 0; y < s; y++) {
            b.append(y == 0 ? "" : "/");
            for (int k = 0; k < c; k++) {
                b.append(k == 0 ? "" : ",").append(to(high));
            }
        }
        return perhapsSpoilt(b.toString(), "0123456789,/");
    }

    private String peopleText() {
        StringBuilder b = new StringBuilder();
        int high = new int[] {2, 5, 10}[to(3)];
        int lines = to(10) == 0 ? 6 + to(3) : 1 + to(4);
        for (int k = 0; k < lines && b.length() < 70; k++) {
            b.append(k == 0 ? "" : ";").append((char) ('a' + to(Math.max(1, m.columns)))).append(1 + to(Math.max(1, m.storeys)));
            b.append(':');
            for (int i = 0; i < 6; i++) {
                b.append(to(high));
            }
        }
        return perhapsSpoilt(b.toString(), "abc0123456789:;");
    }

    private String expression(int depth) {
        StringBuilder b = new StringBuilder();
        int things = 1 + to(3);
        for (int k = 0; k < things; k++) {
            b.append(k == 0 ? "" : "+-*/".charAt(to(4)));
            b.append(to(6) == 0 ? "-" : "");
            int kind = to(8);
            if (kind == 0 && depth < 5) {
                b.append('(').append(expression(depth + 1)).append(')');
            } else if (kind < 4) {
                b.append(to(3) == 0 ? to(1000) : to(10));
            } else {
                b.append("wwwiafynh".charAt(to(9)));
            }
        }
        if (to(6) == 0) {
            b.append("<>=".charAt(to(3))).append("wiafynh123".charAt(to(10)));
        }
        return b.toString();
    }

    private String ruleText() {
        String[] plain = {"w/2", "w/3+1", "w", "w*2/(i+1)", "n*2-y", "w/2-f", "w-h/9", "(w>3)*2", "w+a/2"};
        String s = to(2) == 0 ? plain[to(plain.length)] : expression(0);
        return perhapsSpoilt(s.length() > 80 ? s.substring(0, 80) : s, "wiafynh0123456789+-*/()<>=");
    }

    private String winterText() {
        StringBuilder b = new StringBuilder();
        int acts = to(8) == 0 ? 20 : 1 + to(5);
        for (int k = 0; k < acts && b.length() < 74; k++) {
            b.append(k == 0 ? "" : ";");
            switch (to(6)) {
                case 0: b.append('f').append(to(10)); break;
                case 1: b.append('s').append(to(4) == 0 ? "-" : "" + (char) ('a' + to(3)) + (1 + to(3))); break;
                case 2: b.append('m').append(person() & 7).append((char) ('a' + to(3))).append(1 + to(3)); break;
                case 3: b.append('h').append(1 + to(9)); break;
                default: b.append('h');
            }
        }
        return perhapsSpoilt(b.toString(), "hmsf-;abc0123456789");
    }

    private void step(int call) {
        switch (call) {
            case 0:
                if (to(3) == 0) {
                    type(houseText());
                    last = "house()";
                    due(x.house(), m.house());
                }
                break;
            case 1: case 41:
                type(to(5) == 0 ? "" : peopleText());
                last = "people()";
                due(x.people(), m.people());
                break;
            case 2: case 3:
                type(to(6) == 0 ? "" : ruleText());
                last = "rule()";
                due(x.rule(), m.rule());
                break;
            case 4: {
                int v = random.nextInt();
                last = "sign(" + v + ")";
                due(x.sign(v), m.sign(v));
                break;
            }
            case 5: {
                int n = near(0, m.text.length());
                last = "end(" + n + ")";
                due(x.end(n) ? 1 : 0, m.end(n) ? 1 : 0);
                break;
            }
            case 6: {
                int a = near(0, 2);
                int v = near(0, 9);
                last = "set(" + a + ", " + v + ")";
                due(x.set(a, v), m.set(a, v));
                break;
            }
            case 7: {
                int p = person();
                int k = near(0, 5);
                int v = near(0, 9);
                last = "doing(" + p + ", " + k + ", " + v + ")";
                due(x.doing(p, k, v), m.doing(p, k, v));
                break;
            }
            case 8: {
                int kind = near(0, 3);
                int n = near(0, 9);
                int f = to(3) == 0 ? random.nextInt() : to(40);
                int step = to(3) == 0 ? random.nextInt() : to(40) - 5;
                if (to(3) == 0) {
                    last = "sheet(" + kind + ", " + n + ", " + f + ", " + step + ")";
                    due(x.sheet(kind, n, f, step), m.sheet(kind, n, f, step));
                }
                break;
            }
            case 9: case 10: {
                int p = person();
                int r = room();
                last = "move(" + p + ", " + r + ")";
                due(x.move(p, r), m.move(p, r));
                break;
            }
            case 11: case 12: {
                int r = to(5) == 0 ? -1 : room();
                last = "stove(" + r + ")";
                due(x.stove(r), m.stove(r));
                break;
            }
            case 13:
                last = "hour()";
                due(x.hour(), m.hour());
                break;
            case 14: {
                int n = to(4) == 0 ? near(0, 60) : to(4);
                last = "hours(" + n + ")";
                due(x.hours(n), m.hours(n));
                break;
            }
            case 15: {
                int p = person();
                int n = to(3) == 0 ? near(1, 9999) : 1 + to(20);
                last = "pay(" + p + ", " + n + ")";
                due(x.pay(p, n), m.pay(p, n));
                break;
            }
            case 16: case 17:
                type(to(12) == 0 ? "" : winterText());
                last = "winter()";
                due(x.winter(), m.winter());
                break;
            case 18: case 19:
                last = "undo()";
                due(x.undo(), m.undo());
                break;
            default:
                ask(call);
        }
    }

    private void ask(int call) {
        switch (call) {
            case 20: {
                int r = room();
                int n = few(100);
                last = "thick(" + r + ", " + n + ")";
                due(x.thick(r, n), m.thick(r, n));
                break;
            }
            case 21:
                last = "gives()";
                due(x.gives(), m.gives());
                break;
            case 22: {
                int n = few(100);
                last = "drips(" + n + ")";
                due(x.drips(n), m.drips(n));
                break;
            }
            case 23: {
                int n = few(100);
                last = "coldest(" + n + ")";
                due(x.coldest(n), m.coldest(n));
                break;
            }
            case 24: {
                int n = few(40);
                last = "lodge(" + n + ")";
                due(x.lodge(n), m.lodge(n));
                break;
            }
            case 25:
                last = "longest()";
                due(x.longest(), m.longest());
                break;
            case 26: {
                int n = few(40);
                last = "quiet(" + n + ")";
                due(x.quiet(n), m.quiet(n));
                break;
            }
            case 27:
                last = "burden()";
                due(x.burden(), m.burden());
                break;
            case 28: {
                int p = person();
                last = "share(" + p + ")";
                due(x.share(p), m.share(p));
                break;
            }
            case 29: {
                int n = few(100);
                last = "charges(" + n + ")";
                due(x.charges(n), m.charges(n));
                break;
            }
            case 30: {
                int r = room();
                int v = to(3) == 0 ? near(0, 99) : to(8);
                last = "warm(" + r + ", " + v + ")";
                due(x.warm(r, v), m.warm(r, v));
                break;
            }
            case 31:
                last = "look()";
                due(x.look(), m.look());
                break;
            case 32: {
                int n = near(1, 5);
                last = "carry(" + n + ")";
                due(x.carry(n), m.carry(n));
                break;
            }
            default:
                askMore(call);
        }
    }

    private void askMore(int call) {
        switch (call) {
            case 33: {
                int n = few(60);
                last = "hearth(" + n + ")";
                due(x.hearth(n), m.hearth(n));
                break;
            }
            case 34: {
                int a = person();
                int b = person();
                int v = to(3) == 0 ? near(0, 99) : to(6);
                last = "rests(" + a + ", " + b + ", " + v + ")";
                due(x.rests(a, b, v), m.rests(a, b, v));
                break;
            }
            case 35:
                last = "water()";
                due(x.water(), m.water());
                break;
            case 36: {
                int n = near(1, 8);
                int p = near(0, 10);
                last = "thaw(" + n + ", " + p + ")";
                due(x.thaw(n, p), m.thaw(n, p));
                break;
            }
            case 37: {
                int p = near(0, 10);
                int v = near(0, 100);
                last = "leave(" + p + ", " + v + ")";
                due(x.leave(p, v), m.leave(p, v));
                break;
            }
            case 38: {
                int seed = random.nextInt();
                int n = few(60);
                last = "season(" + seed + ", " + n + ")";
                due(x.season(seed, n), m.season(seed, n));
                break;
            }
            case 39: {
                int i = to(6) == 0 ? near(0, 1) : to(2);
                last = "keep(" + i + ")";
                due(x.keep(i) ? 1 : 0, m.keep(i) ? 1 : 0);
                break;
            }
            default: {
                int i = to(6) == 0 ? near(0, 1) : to(2);
                last = "again(" + i + ")";
                due(x.again(i) ? 1 : 0, m.again(i) ? 1 : 0);
            }
        }
    }

    private interface Told {
        long by(int a, int b);
    }

    private void same(String call, Told got, Told want, int a, int b) {
        used++;
        String said;
        String ought;
        try {
            said = "" + got.by(a, b);
        } catch (NoSuchElementException e) {
            said = "NoSuchElementException";
        }
        try {
            ought = "" + want.by(a, b);
        } catch (NoSuchElementException e) {
            ought = "NoSuchElementException";
        }
        if (!said.equals(ought)) {
            wrong++;
            System.out.println("run " + run + ": behind " + last + " " + call + "(" + a + ", " + b + ") answered " + said
                + ", due is " + ought);
        }
    }

    private void compareRow() {
        same("count", (a, b) -> x.count(a), (a, b) -> m.count(a), 11, 0);
        for (int i = 0; i < m.count(11); i++) {
            same("row", (a, b) -> x.row(a), (a, b) -> m.row(a), i, 0);
        }
    }

    /** All that can be told. */
    private void compare() {
        for (int what = -1; what <= 13; what++) {
            same("count", (a, b) -> x.count(a), (a, b) -> m.count(a), what, 0);
        }
        for (int i = -1; i <= 6; i++) {
            same("row", (a, b) -> x.row(a), (a, b) -> m.row(a), i, 0);
        }
        for (int r = -1; r <= 9; r++) {
            for (int what = -1; what <= 6; what++) {
                same("room", (a, b) -> x.room(a, b), (a, b) -> m.room(a, b), r, what);
            }
        }
        for (int p = -1; p <= 5; p++) {
            for (int what = -1; what <= 5; what++) {
                same("person", (a, b) -> x.person(a, b), (a, b) -> m.person(a, b), p, what);
            }
        }
    }
}
